section CG
variable {V : Nat → Value} {W : xWt} {N : Nat} {h : xH} {S : Nat → Nat → Int} {T : Nat → Nat → Int64}
theorem p_needCell (hW : xFix V W) {p x y : Int} {h : xH} (hp : j32 p) (hx : j32 x) (hy : j32 y) :
    W m_Room_needCell (0, [some (.int (Int32.ofInt p)), some (.int (Int32.ofInt x)), some (.int (Int32.ofInt y))], []) h = if (0 ≤ p ∧ p < 4) ∧ (0 ≤ x ∧ x < 48) ∧ (0 ≤ y ∧ y < 64) then some (.inl none, h) else jX 8 h := by
  by_cases c1 : 0 ≤ p ∧ p < 4
  · by_cases c2 : 0 ≤ x ∧ x < 48
    · by_cases c3 : 0 ≤ y ∧ y < 64
      · simp (disch := omega) only [↓reduceIte, S0, S1, J_lt, J_le, J_eq, J_ldI, J_ldI3, J_ldB, J_ldL, J_ldR, J_stI, J_stB, J_stL, J_dv, j_gne, C0, CM, CP, CR, CJ, CS, CL, and_self, and_true, true_and, and_false, false_and, or_true, true_or, or_false, false_or, not_true_eq_false, not_false_eq_true, Option.map_some, E_Room_needCell hW, p_needIndex hW, c1, c2, c3]
      · simp (disch := omega) only [↓reduceIte, S0, S1, J_lt, J_le, J_eq, J_ldI, J_ldI3, J_ldB, J_ldL, J_ldR, J_stI, J_stB, J_stL, J_dv, j_gne, C0, CM, CP, CR, CJ, CS, CL, and_self, and_true, true_and, and_false, false_and, or_true, true_or, or_false, false_or, not_true_eq_false, not_false_eq_true, Option.map_some, E_Room_needCell hW, p_needIndex hW, c1, c2, c3, jX_ret X_Room_needCell]
    · simp (disch := omega) only [↓reduceIte, S0, S1, J_lt, J_le, J_eq, J_ldI, J_ldI3, J_ldB, J_ldL, J_ldR, J_stI, J_stB, J_stL, J_dv, j_gne, C0, CM, CP, CR, CJ, CS, CL, and_self, and_true, true_and, and_false, false_and, or_true, true_or, or_false, false_or, not_true_eq_false, not_false_eq_true, Option.map_some, E_Room_needCell hW, p_needIndex hW, c1, c2, jX_ret X_Room_needCell]
  · simp (disch := omega) only [↓reduceIte, S0, S1, J_lt, J_le, J_eq, J_ldI, J_ldI3, J_ldB, J_ldL, J_ldR, J_stI, J_stB, J_stL, J_dv, j_gne, C0, CM, CP, CR, CJ, CS, CL, and_self, and_true, true_and, and_false, false_and, or_true, true_or, or_false, false_or, not_true_eq_false, not_false_eq_true, Option.map_some, E_Room_needCell hW, p_needIndex hW, c1, jX_ret X_Room_needCell]
theorem p_cellAt (hW : xFix V W) {x y : Int} {h : xH} : W m_Room_cellAt (0, [some (.int (Int32.ofInt x)), some (.int (Int32.ofInt y))], []) h = some (.inl (some (jI (y * 48 + x))), h) := by
  simp (disch := omega) only [↓reduceIte, S0, S1, J_lt, J_le, J_eq, J_ldI, J_ldI3, J_ldB, J_ldL, J_ldR, J_stI, J_stB, J_stL, J_dv, j_gne, C0, CM, CP, CR, CJ, CS, CL, and_self, and_true, true_and, and_false, false_and, or_true, true_or, or_false, false_or, not_true_eq_false, not_false_eq_true, Option.map_some, E_Room_cellAt hW]
theorem p_cell (hW : xFix V W) (H : HP N h S T) {p x y : Int} (hp : j32 p) (hx : j32 x) (hy : j32 y) :
    W m_Room_cell (0, [some (.ref N), some (.int (Int32.ofInt p)), some (.int (Int32.ofInt x)), some (.int (Int32.ofInt y))], []) h = if (0 ≤ p ∧ p < 4) ∧ (0 ≤ x ∧ x < 48) ∧ (0 ≤ y ∧ y < 64) then some (.inl (some (jI (S (3 + p.toNat) (y * 48 + x).toNat))), h) else jX 8 h := by
  by_cases c1 : (0 ≤ p ∧ p < 4) ∧ (0 ≤ x ∧ x < 48) ∧ (0 ≤ y ∧ y < 64)
  · rw [if_pos c1]
    simp (disch := omega) only [↓reduceIte, S0, S1, J_lt, J_le, J_eq, J_ldI, J_ldI3, J_ldB, J_ldL, J_ldR, J_stI, J_stB, J_stL, J_dv, j_gne, C0, CM, CP, CR, CJ, CS, CL, and_self, and_true, true_and, and_false, false_and, or_true, true_or, or_false, false_or, not_true_eq_false, not_false_eq_true, Option.map_some, J_ltT, J_ltF, J_leT, J_leF, J_eqT, J_eqF, J_ntT, J_ntF, E_Room_cell hW, p_needCell hW, p_cellAt hW, H.get0, H.get]
  · rw [if_neg c1]
    simp (disch := omega) only [↓reduceIte, S0, S1, J_lt, J_le, J_eq, J_ldI, J_ldI3, J_ldB, J_ldL, J_ldR, J_stI, J_stB, J_stL, J_dv, j_gne, C0, CM, CP, CR, CJ, CS, CL, and_self, and_true, true_and, and_false, false_and, or_true, true_or, or_false, false_or, not_true_eq_false, not_false_eq_true, Option.map_some, E_Room_cell hW, p_needCell hW, c1, jX_ret X_Room_cell]
theorem q_cell (hW : xFix V W) (H : HP N h S T) {p x y : Int} (hp : j32 p) (hx : j32 x) (hy : j32 y) :
    W m_Mod_cell (0, [some (.ref (N + 78)), some (.int (Int32.ofInt p)), some (.int (Int32.ofInt x)), some (.int (Int32.ofInt y))], []) h = if (0 ≤ p ∧ p < 4) ∧ (0 ≤ x ∧ x < 48) ∧ (0 ≤ y ∧ y < 64) then some (.inl (some (jI (S 80 (3072 * p + 48 * y + x).toNat))), hth N h S T 0) else some (.inl (some (jI 0)), hth N h S T 1) := by
  by_cases c1 : (0 ≤ p ∧ p < 4) ∧ (0 ≤ x ∧ x < 48) ∧ (0 ≤ y ∧ y < 64)
  · rw [if_pos c1]
    simp (disch := omega) only [↓reduceIte, S0, S1, J_lt, J_le, J_eq, J_ldI, J_ldI3, J_ldB, J_ldL, J_ldR, J_stI, J_stB, J_stL, J_dv, j_gne, C0, CM, CP, CR, CJ, CS, CL, and_self, and_true, true_and, and_false, false_and, or_true, true_or, or_false, false_or, not_true_eq_false, not_false_eq_true, Option.map_some, J_ltT, J_ltF, J_leT, J_leF, J_eqT, J_eqF, J_ntT, J_ntF, E_Mod_cell hW, q_isCell hW, q_at hW, H.get]
  · rw [if_neg c1]
    simp (disch := omega) only [↓reduceIte, S0, S1, J_lt, J_le, J_eq, J_ldI, J_ldI3, J_ldB, J_ldL, J_ldR, J_stI, J_stB, J_stL, J_dv, j_gne, C0, CM, CP, CR, CJ, CS, CL, and_self, and_true, true_and, and_false, false_and, or_true, true_or, or_false, false_or, not_true_eq_false, not_false_eq_true, Option.map_some, E_Mod_cell hW, q_isCell hW, show ¬ ((0 ≤ p ∧ p ≤ 3) ∧ (0 ≤ x ∧ x ≤ 47) ∧ (0 ≤ y ∧ y ≤ 63)) by omega, E_Mod_fail hW, H.get, j_ss, jup_jup]
theorem p_grey (hW : xFix V W) (H : HP N h S T) {s l : Int} (hs : j32 s) (hl : j32 l) :
    W m_Room_grey (0, [some (.ref N), some (.int (Int32.ofInt s)), some (.int (Int32.ofInt l))], []) h = if (0 ≤ s ∧ s ≤ 100) ∧ (200 ≤ l ∧ l ≤ 1020) then some (.inl none, xset h N (cell N 0 (jup (jup (S 0) 6 s) 7 l) (T 0))) else jX 9 h := by
  by_cases c1 : 0 ≤ s ∧ s ≤ 100
  · by_cases c2 : 200 ≤ l ∧ l ≤ 1020
    · simp (disch := omega) only [↓reduceIte, S0, S1, J_lt, J_le, J_eq, J_ldI, J_ldI3, J_ldB, J_ldL, J_ldR, J_stI, J_stB, J_stL, J_dv, j_gne, C0, CM, CP, CR, CJ, CS, CL, and_self, and_true, true_and, and_false, false_and, or_true, true_or, or_false, false_or, not_true_eq_false, not_false_eq_true, Option.map_some, E_Room_grey hW, p_needBetween hW, c1, c2, H.get0]
    · simp (disch := omega) only [↓reduceIte, S0, S1, J_lt, J_le, J_eq, J_ldI, J_ldI3, J_ldB, J_ldL, J_ldR, J_stI, J_stB, J_stL, J_dv, j_gne, C0, CM, CP, CR, CJ, CS, CL, and_self, and_true, true_and, and_false, false_and, or_true, true_or, or_false, false_or, not_true_eq_false, not_false_eq_true, Option.map_some, E_Room_grey hW, p_needBetween hW, c1, c2, H.get0, jX_ret X_Room_grey]
  · simp (disch := omega) only [↓reduceIte, S0, S1, J_lt, J_le, J_eq, J_ldI, J_ldI3, J_ldB, J_ldL, J_ldR, J_stI, J_stB, J_stL, J_dv, j_gne, C0, CM, CP, CR, CJ, CS, CL, and_self, and_true, true_and, and_false, false_and, or_true, true_or, or_false, false_or, not_true_eq_false, not_false_eq_true, Option.map_some, E_Room_grey hW, p_needBetween hW, c1, jX_ret X_Room_grey]
theorem q_grey (hW : xFix V W) (H : HP N h S T) {s l : Int} (hs : j32 s) (hl : j32 l) :
    W m_Mod_grey (0, [some (.ref (N + 78)), some (.int (Int32.ofInt s)), some (.int (Int32.ofInt l))], []) h = if (0 ≤ s ∧ s ≤ 100) ∧ (200 ≤ l ∧ l ≤ 1020) then some (.inl none, xset h (N + 78) (cell N 78 (jup (jup (jup (S 78) 0 0) 3 s) 4 l) (T 78))) else some (.inl none, hth N h S T 1) := by
  by_cases c1 : 0 ≤ s ∧ s ≤ 100
  · by_cases c2 : 200 ≤ l ∧ l ≤ 1020
    · simp (disch := omega) only [↓reduceIte, S0, S1, J_lt, J_le, J_eq, J_ldI, J_ldI3, J_ldB, J_ldL, J_ldR, J_stI, J_stB, J_stL, J_dv, j_gne, C0, CM, CP, CR, CJ, CS, CL, and_self, and_true, true_and, and_false, false_and, or_true, true_or, or_false, false_or, not_true_eq_false, not_false_eq_true, Option.map_some, E_Mod_grey hW, q_within hW, c1, c2, H.get]
    · simp (disch := omega) only [↓reduceIte, S0, S1, J_lt, J_le, J_eq, J_ldI, J_ldI3, J_ldB, J_ldL, J_ldR, J_stI, J_stB, J_stL, J_dv, j_gne, C0, CM, CP, CR, CJ, CS, CL, and_self, and_true, true_and, and_false, false_and, or_true, true_or, or_false, false_or, not_true_eq_false, not_false_eq_true, Option.map_some, E_Mod_grey hW, q_within hW, c1, c2, H.get, jup_jup]
  · simp (disch := omega) only [↓reduceIte, S0, S1, J_lt, J_le, J_eq, J_ldI, J_ldI3, J_ldB, J_ldL, J_ldR, J_stI, J_stB, J_stL, J_dv, j_gne, C0, CM, CP, CR, CJ, CS, CL, and_self, and_true, true_and, and_false, false_and, or_true, true_or, or_false, false_or, not_true_eq_false, not_false_eq_true, Option.map_some, E_Mod_grey hW, q_within hW, c1, H.get, jup_jup]
end CG
