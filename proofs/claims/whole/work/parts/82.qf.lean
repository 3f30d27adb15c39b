/-! the reference's forms and which of two places is before -/
theorem J_tdiv {a b : Int} (h : (-2147483648 ≤ a ∧ a < 2147483648) ∧ (-2147483648 ≤ b ∧ b < 2147483648)) : Int32.ofInt a / Int32.ofInt b = Int32.ofInt (a.tdiv b) := j_tdiv h.1.1 h.1.2 h.2.1 h.2.2
theorem mulb {a y A B : Int} (h1 : -A ≤ a ∧ a ≤ A) (h2 : -B ≤ y ∧ y ≤ B) : -(A * B) ≤ a * y ∧ a * y ≤ A * B := by
  have e1 : 0 ≤ (A - a) * (B + y) := Int.mul_nonneg (by omega) (by omega)
  have e2 : 0 ≤ (A + a) * (B - y) := Int.mul_nonneg (by omega) (by omega)
  have e3 : 0 ≤ (A - a) * (B - y) := Int.mul_nonneg (by omega) (by omega)
  have e4 : 0 ≤ (A + a) * (B + y) := Int.mul_nonneg (by omega) (by omega)
  have e5 : (A - a) * (B + y) = A * B + A * y - a * B - a * y := by grind
  have e6 : (A + a) * (B - y) = A * B - A * y + a * B - a * y := by grind
  have e7 : (A - a) * (B - y) = A * B - A * y - a * B + a * y := by grind
  have e8 : (A + a) * (B + y) = A * B + A * y + a * B + a * y := by grind
  omega
section QFO
variable {V : Nat → Value} {W : xWt} {N : Nat} {T : Nat → Nat → Int64} {h : xH} {S : Nat → Nat → Int}
theorem q_rest (hW : xFix V W) {v n : Int} (hv : -1000000 ≤ v ∧ v ≤ 1000000) (hn : 0 < n ∧ n ≤ 400) : W m_Mod_rest (0, [some (.int (Int32.ofInt v)), some (.int (Int32.ofInt n))], []) h = some (.inl (some (jI (v % n))), h) := by
  have e0 := Int.tmod_add_mul_tdiv v n
  have e1 := Int.lt_tmod_of_pos v hn.1
  have e2 := Int.tmod_lt_of_pos v hn.1
  have e3 : n * v.tdiv n = v.tdiv n * n := Int.mul_comm _ _
  have f0 := Int.mul_ediv_add_emod (v - v.tdiv n * n + n) n
  have f1 : n * ((v - v.tdiv n * n + n) / n) = (v - v.tdiv n * n + n) / n * n := Int.mul_comm _ _
  have f2 : (v - v.tdiv n * n + n) % n = v % n := by
    rw [Int.add_emod_right, show v - v.tdiv n * n = v + -v.tdiv n * n by rw [Int.neg_mul]; omega, Int.add_mul_emod_self_right]
  have d1 : W m_Mod_rest (0, [some (.int (Int32.ofInt v)), some (.int (Int32.ofInt n))], []) h = W m_Mod_rest (3, [some (.int (Int32.ofInt v)), some (.int (Int32.ofInt n))], [(.int (Int32.ofInt (v - v.tdiv n * n)))]) h := by
    simp (disch := omega) only [↓reduceIte, S0, S1, J_lt, J_le, J_eq, J_ldI, J_ldI3, J_ldB, J_ldL, J_ldR, J_stI, J_stB, J_stL, J_dv, j_gne, C0, CM, CP, CR, CJ, CS, CL, and_self, and_true, true_and, and_false, false_and, or_true, true_or, or_false, false_or, not_true_eq_false, not_false_eq_true, Option.map_some, (E_Mod_rest hW).1, J_tdiv]
  rw [d1]
  simp (disch := omega) only [↓reduceIte, S0, S1, J_lt, J_le, J_eq, J_ldI, J_ldI3, J_ldB, J_ldL, J_ldR, J_stI, J_stB, J_stL, J_dv, j_gne, C0, CM, CP, CR, CJ, CS, CL, and_self, and_true, true_and, and_false, false_and, or_true, true_or, or_false, false_or, not_true_eq_false, not_false_eq_true, Option.map_some, (E_Mod_rest hW).2, J_div]
  rw [show v - v.tdiv n * n + n - (v - v.tdiv n * n + n) / n * n = v % n by omega]
theorem q_sizeOf (hW : xFix V W) (H : HP N h S T) {ink a b : Int} (hi : 0 ≤ ink ∧ ink < 8) (ea : S 88 ink.toNat = a) (eb : S 89 ink.toNat = b) :
    W m_Mod_sizeOf (0, [some (.ref (N + 78)), some (.int (Int32.ofInt ink))], []) h = some (.inl (some (jI (a * a + b * b))), h) := by
  simp (disch := omega) only [↓reduceIte, S0, S1, J_lt, J_le, J_eq, J_ldI, J_ldI3, J_ldB, J_ldL, J_ldR, J_stI, J_stB, J_stL, J_dv, j_gne, C0, CM, CP, CR, CJ, CS, CL, and_self, and_true, true_and, and_false, false_and, or_true, true_or, or_false, false_or, not_true_eq_false, not_false_eq_true, Option.map_some, E_Mod_sizeOf hW, H.get, ea, eb]
theorem q_formOf (hW : xFix V W) (H : HP N h S T) {ink a b s x y : Int} (hi : 0 ≤ ink ∧ ink < 8) (ea : S 88 ink.toNat = a) (eb : S 89 ink.toNat = b) (es : S 90 ink.toNat = s) (ha : -20 ≤ a ∧ a ≤ 20) (hb : -20 ≤ b ∧ b ≤ 20) (hs : 0 ≤ s ∧ s < 3) (hx : -100 ≤ x ∧ x ≤ 100) (hy : -100 ≤ y ∧ y ≤ 100) :
    W m_Mod_formOf (0, [some (.ref (N + 78)), some (.int (Int32.ofInt ink)), some (.int (Int32.ofInt x)), some (.int (Int32.ofInt y)), none, none, none], []) h = some (.inl (some (jI (frm a b s x y))), h) := by
  have m1 := mulb ha hy
  have m2 := mulb hb hx
  unfold frm
  by_cases s0 : s = 0
  · by_cases sx : x < 0 <;> by_cases sy : y < 0 <;> simp (disch := omega) only [↓reduceIte, S0, S1, J_lt, J_le, J_eq, J_ldI, J_ldI3, J_ldB, J_ldL, J_ldR, J_stI, J_stB, J_stL, J_dv, j_gne, C0, CM, CP, CR, CJ, CS, CL, and_self, and_true, true_and, and_false, false_and, or_true, true_or, or_false, false_or, not_true_eq_false, not_false_eq_true, Option.map_some, J_ltT, J_ltF, J_leT, J_leF, J_eqT, J_eqF, J_ntT, J_ntF, E_Mod_formOf hW, H.get, ea, eb, es]
  · by_cases s1 : s = 1
    · by_cases l : a * y - b * x < 0 <;> by_cases sx : x < 0 <;> by_cases sy : y < 0 <;> simp (disch := omega) only [↓reduceIte, S0, S1, J_lt, J_le, J_eq, J_ldI, J_ldI3, J_ldB, J_ldL, J_ldR, J_stI, J_stB, J_stL, J_dv, j_gne, C0, CM, CP, CR, CJ, CS, CL, and_self, and_true, true_and, and_false, false_and, or_true, true_or, or_false, false_or, not_true_eq_false, not_false_eq_true, Option.map_some, J_ltT, J_ltF, J_leT, J_leF, J_eqT, J_eqF, J_ntT, J_ntF, E_Mod_formOf hW, H.get, ea, eb, es]
    · by_cases sx : x < 0 <;> by_cases sy : y < 0 <;> simp (disch := omega) only [↓reduceIte, S0, S1, J_lt, J_le, J_eq, J_ldI, J_ldI3, J_ldB, J_ldL, J_ldR, J_stI, J_stB, J_stL, J_dv, j_gne, C0, CM, CP, CR, CJ, CS, CL, and_self, and_true, true_and, and_false, false_and, or_true, true_or, or_false, false_or, not_true_eq_false, not_false_eq_true, Option.map_some, J_ltT, J_ltF, J_leT, J_leF, J_eqT, J_eqF, J_ntT, J_ntF, E_Mod_formOf hW, H.get, ea, eb, es]
theorem frm_u {a b s x y : Int} (ha : -20 ≤ a ∧ a ≤ 20) (hb : -20 ≤ b ∧ b ≤ 20) (hx : -60 ≤ x ∧ x ≤ 60) (hy : -60 ≤ y ∧ y ≤ 60) : 0 ≤ frm a b s x y ∧ frm a b s x y ≤ 10000 := by
  have m1 := mulb ha hy
  have m2 := mulb hb hx
  have m3 := mulb hx hx
  have m4 := mulb hy hy
  have := sq_nn x
  have := sq_nn y
  unfold frm
  split
  · omega
  · split
    · split <;> omega
    · split <;> split <;> omega
theorem q_isBefore (hW : xFix V W) (H : HP N h S T) {ink a b s x y u v : Int} (hi : 0 ≤ ink ∧ ink < 8) (ea : S 88 ink.toNat = a) (eb : S 89 ink.toNat = b) (es : S 90 ink.toNat = s) (ha : -20 ≤ a ∧ a ≤ 20) (hb : -20 ≤ b ∧ b ≤ 20) (hs : 0 ≤ s ∧ s < 3) (h1 : x * x + y * y < 3600) (h2 : u * u + v * v < 3600) :
    W m_Mod_isBefore (0, [some (.ref (N + 78)), some (.int (Int32.ofInt ink)), some (.int (Int32.ofInt x)), some (.int (Int32.ofInt y)), some (.int (Int32.ofInt u)), some (.int (Int32.ofInt v)), none, none, none, none], []) h = some (.inl (some (jI (if ky a b s x y < ky a b s u v then 1 else 0))), h) := by
  have c1 := ds_b (x := x) (y := y) (m := 60) (by omega) (by omega)
  have c2 := ds_b (x := u) (y := v) (m := 60) (by omega) (by omega)
  have n1 := sq_nn x
  have n2 := sq_nn y
  have n3 := sq_nn u
  have n4 := sq_nn v
  have f1 := q_formOf hW H hi ea eb es ha hb hs (x := x) (y := y) (by omega) (by omega)
  have f2 := q_formOf hW H hi ea eb es ha hb hs (x := u) (y := v) (by omega) (by omega)
  have g1 := frm_u (s := s) ha hb c1.1 c1.2
  have g2 := frm_u (s := s) ha hb c2.1 c2.2
  unfold ky
  generalize frm a b s x y = f at *
  generalize frm a b s u v = g at *
  by_cases z1 : f = g
  · subst z1
    by_cases z2 : x * x + y * y = u * u + v * v
    · by_cases z3 : y = v
      · subst z3
        by_cases z4 : x < u
        · rw [if_pos (by omega)]
          simp (disch := omega) only [↓reduceIte, S0, S1, J_lt, J_le, J_eq, J_ldI, J_ldI3, J_ldB, J_ldL, J_ldR, J_stI, J_stB, J_stL, J_dv, j_gne, C0, CM, CP, CR, CJ, CS, CL, and_self, and_true, true_and, and_false, false_and, or_true, true_or, or_false, false_or, not_true_eq_false, not_false_eq_true, Option.map_some, J_ltT, J_ltF, J_leT, J_leF, J_eqT, J_eqF, J_ntT, J_ntF, E_Mod_isBefore hW, H.get, f1, f2]
        · rw [if_neg (by omega)]
          simp (disch := omega) only [↓reduceIte, S0, S1, J_lt, J_le, J_eq, J_ldI, J_ldI3, J_ldB, J_ldL, J_ldR, J_stI, J_stB, J_stL, J_dv, j_gne, C0, CM, CP, CR, CJ, CS, CL, and_self, and_true, true_and, and_false, false_and, or_true, true_or, or_false, false_or, not_true_eq_false, not_false_eq_true, Option.map_some, J_ltT, J_ltF, J_leT, J_leF, J_eqT, J_eqF, J_ntT, J_ntF, E_Mod_isBefore hW, H.get, f1, f2]
      · by_cases z4 : y < v
        · rw [if_pos (by omega)]
          simp (disch := omega) only [↓reduceIte, S0, S1, J_lt, J_le, J_eq, J_ldI, J_ldI3, J_ldB, J_ldL, J_ldR, J_stI, J_stB, J_stL, J_dv, j_gne, C0, CM, CP, CR, CJ, CS, CL, and_self, and_true, true_and, and_false, false_and, or_true, true_or, or_false, false_or, not_true_eq_false, not_false_eq_true, Option.map_some, J_ltT, J_ltF, J_leT, J_leF, J_eqT, J_eqF, J_ntT, J_ntF, E_Mod_isBefore hW, H.get, f1, f2]
        · rw [if_neg (by omega)]
          simp (disch := omega) only [↓reduceIte, S0, S1, J_lt, J_le, J_eq, J_ldI, J_ldI3, J_ldB, J_ldL, J_ldR, J_stI, J_stB, J_stL, J_dv, j_gne, C0, CM, CP, CR, CJ, CS, CL, and_self, and_true, true_and, and_false, false_and, or_true, true_or, or_false, false_or, not_true_eq_false, not_false_eq_true, Option.map_some, J_ltT, J_ltF, J_leT, J_leF, J_eqT, J_eqF, J_ntT, J_ntF, E_Mod_isBefore hW, H.get, f1, f2]
    · by_cases z3 : x * x + y * y < u * u + v * v
      · rw [if_pos (by omega)]
        simp (disch := omega) only [↓reduceIte, S0, S1, J_lt, J_le, J_eq, J_ldI, J_ldI3, J_ldB, J_ldL, J_ldR, J_stI, J_stB, J_stL, J_dv, j_gne, C0, CM, CP, CR, CJ, CS, CL, and_self, and_true, true_and, and_false, false_and, or_true, true_or, or_false, false_or, not_true_eq_false, not_false_eq_true, Option.map_some, J_ltT, J_ltF, J_leT, J_leF, J_eqT, J_eqF, J_ntT, J_ntF, E_Mod_isBefore hW, H.get, f1, f2]
      · rw [if_neg (by omega)]
        simp (disch := omega) only [↓reduceIte, S0, S1, J_lt, J_le, J_eq, J_ldI, J_ldI3, J_ldB, J_ldL, J_ldR, J_stI, J_stB, J_stL, J_dv, j_gne, C0, CM, CP, CR, CJ, CS, CL, and_self, and_true, true_and, and_false, false_and, or_true, true_or, or_false, false_or, not_true_eq_false, not_false_eq_true, Option.map_some, J_ltT, J_ltF, J_leT, J_leF, J_eqT, J_eqF, J_ntT, J_ntF, E_Mod_isBefore hW, H.get, f1, f2]
  · by_cases z2 : f < g
    · rw [if_pos (by omega)]
      simp (disch := omega) only [↓reduceIte, S0, S1, J_lt, J_le, J_eq, J_ldI, J_ldI3, J_ldB, J_ldL, J_ldR, J_stI, J_stB, J_stL, J_dv, j_gne, C0, CM, CP, CR, CJ, CS, CL, and_self, and_true, true_and, and_false, false_and, or_true, true_or, or_false, false_or, not_true_eq_false, not_false_eq_true, Option.map_some, J_ltT, J_ltF, J_leT, J_leF, J_eqT, J_eqF, J_ntT, J_ntF, E_Mod_isBefore hW, H.get, f1, f2]
    · rw [if_neg (by omega)]
      simp (disch := omega) only [↓reduceIte, S0, S1, J_lt, J_le, J_eq, J_ldI, J_ldI3, J_ldB, J_ldL, J_ldR, J_stI, J_stB, J_stL, J_dv, j_gne, C0, CM, CP, CR, CJ, CS, CL, and_self, and_true, true_and, and_false, false_and, or_true, true_or, or_false, false_or, not_true_eq_false, not_false_eq_true, Option.map_some, J_ltT, J_ltF, J_leT, J_leF, J_eqT, J_eqF, J_ntT, J_ntF, E_Mod_isBefore hW, H.get, f1, f2]
end QFO
