def mx (a b : Int) : Int := if a < b then b else a
def mn (a b : Int) : Int := if a ≤ b then a else b
def amt (C L A : Nat → Int) (k ink : Int) : Int := if L k.toNat = -1 then A (C k.toNat * 8 + ink).toNat else mx (A (C k.toNat * 8 + ink).toNat) (A (L k.toNat * 8 + ink).toNat)
def mark (C L : Nat → Int) (k : Int) : Int := if L k.toNat = -1 then 0 else 1 + 64 * L k.toNat + C k.toNat
section PL
variable {V : Nat → Value} {W : xWt} {N : Nat} {h : xH} {S : Nat → Nat → Int} {T : Nat → Nat → Int64}
theorem p_max (hW : xFix V W) {a b : Int} {h : xH} (h1 : -2147483648 ≤ a) (h2 : a < 2147483648) (h3 : -2147483648 ≤ b) (h4 : b < 2147483648) : W m_Math_max (0, [some (.int (Int32.ofInt a)), some (.int (Int32.ofInt b))], []) h = some (.inl (some (jI (mx a b))), h) := by
  by_cases c : a < b
  · simp (disch := omega) only [↓reduceIte, S0, S1, J_lt, J_le, J_eq, J_ldI, J_ldI3, J_ldB, J_ldL, J_ldR, J_stI, J_stB, J_stL, J_dv, j_gne, C0, CM, CP, CR, CJ, CS, CL, and_self, and_true, true_and, and_false, false_and, or_true, true_or, or_false, false_or, not_true_eq_false, not_false_eq_true, Option.map_some, J_ltT, J_ltF, J_leT, J_leF, J_eqT, J_eqF, J_ntT, J_ntF, E_Math_max hW, mx]
  · simp (disch := omega) only [↓reduceIte, S0, S1, J_lt, J_le, J_eq, J_ldI, J_ldI3, J_ldB, J_ldL, J_ldR, J_stI, J_stB, J_stL, J_dv, j_gne, C0, CM, CP, CR, CJ, CS, CL, and_self, and_true, true_and, and_false, false_and, or_true, true_or, or_false, false_or, not_true_eq_false, not_false_eq_true, Option.map_some, J_ltT, J_ltF, J_leT, J_leF, J_eqT, J_eqF, J_ntT, J_ntF, E_Math_max hW, mx]
theorem p_min (hW : xFix V W) {a b : Int} {h : xH} (h1 : -2147483648 ≤ a) (h2 : a < 2147483648) (h3 : -2147483648 ≤ b) (h4 : b < 2147483648) : W m_Math_min (0, [some (.int (Int32.ofInt a)), some (.int (Int32.ofInt b))], []) h = some (.inl (some (jI (mn a b))), h) := by
  by_cases c : a ≤ b
  · simp (disch := omega) only [↓reduceIte, S0, S1, J_lt, J_le, J_eq, J_ldI, J_ldI3, J_ldB, J_ldL, J_ldR, J_stI, J_stB, J_stL, J_dv, j_gne, C0, CM, CP, CR, CJ, CS, CL, and_self, and_true, true_and, and_false, false_and, or_true, true_or, or_false, false_or, not_true_eq_false, not_false_eq_true, Option.map_some, J_ltT, J_ltF, J_leT, J_leF, J_eqT, J_eqF, J_ntT, J_ntF, E_Math_min hW, mn]
  · simp (disch := omega) only [↓reduceIte, S0, S1, J_lt, J_le, J_eq, J_ldI, J_ldI3, J_ldB, J_ldL, J_ldR, J_stI, J_stB, J_stL, J_dv, j_gne, C0, CM, CP, CR, CJ, CS, CL, and_self, and_true, true_and, and_false, false_and, or_true, true_or, or_false, false_or, not_true_eq_false, not_false_eq_true, Option.map_some, J_ltT, J_ltF, J_leT, J_leF, J_eqT, J_eqF, J_ntT, J_ntF, E_Math_min hW, mn]
theorem p_amountAt (hW : xFix V W) (H : HP N h S T) {p : Nat} (hp : p < 4) {k ink : Int} (hk : 0 ≤ k ∧ k < 3072) (hi : 0 ≤ ink ∧ ink < 8) (hc : 0 ≤ S (9 + 4 * p) k.toNat ∧ S (9 + 4 * p) k.toNat < 64) (hl : -1 ≤ S (10 + 4 * p) k.toNat ∧ S (10 + 4 * p) k.toNat < 64) (hA : ∀ j, j < 512 → 0 ≤ S (11 + 4 * p) j ∧ S (11 + 4 * p) j ≤ 255) :
    W m_Job_amountAt (0, [some (.ref (N + (8 + 4 * p))), some (.int (Int32.ofInt k)), some (.int (Int32.ofInt ink)), none], []) h = some (.inl (some (jI (amt (S (9 + 4 * p)) (S (10 + 4 * p)) (S (11 + 4 * p)) k ink))), h) := by
  have b1 := hA (S (9 + 4 * p) k.toNat * 8 + ink).toNat (by omega)
  by_cases c : S (10 + 4 * p) k.toNat = -1
  · simp (disch := omega) only [↓reduceIte, S0, S1, J_lt, J_le, J_eq, J_ldI, J_ldI3, J_ldB, J_ldL, J_ldR, J_stI, J_stB, J_stL, J_dv, j_gne, C0, CM, CP, CR, CJ, CS, CL, and_self, and_true, true_and, and_false, false_and, or_true, true_or, or_false, false_or, not_true_eq_false, not_false_eq_true, Option.map_some, J_ltT, J_ltF, J_leT, J_leF, J_eqT, J_eqF, J_ntT, J_ntF, E_Job_amountAt hW, H.get, amt]
  · have b2 := hA (S (10 + 4 * p) k.toNat * 8 + ink).toNat (by omega)
    simp (disch := omega) only [↓reduceIte, S0, S1, J_lt, J_le, J_eq, J_ldI, J_ldI3, J_ldB, J_ldL, J_ldR, J_stI, J_stB, J_stL, J_dv, j_gne, C0, CM, CP, CR, CJ, CS, CL, and_self, and_true, true_and, and_false, false_and, or_true, true_or, or_false, false_or, not_true_eq_false, not_false_eq_true, Option.map_some, J_ltT, J_ltF, J_leT, J_leF, J_eqT, J_eqF, J_ntT, J_ntF, E_Job_amountAt hW, H.get, amt, p_max hW]
theorem p_markAt (hW : xFix V W) (H : HP N h S T) {p : Nat} (hp : p < 4) {k : Int} (hk : 0 ≤ k ∧ k < 3072) (hc : 0 ≤ S (9 + 4 * p) k.toNat ∧ S (9 + 4 * p) k.toNat < 64) (hl : -1 ≤ S (10 + 4 * p) k.toNat ∧ S (10 + 4 * p) k.toNat < 64) :
    W m_Job_markAt (0, [some (.ref (N + (8 + 4 * p))), some (.int (Int32.ofInt k))], []) h = some (.inl (some (jI (mark (S (9 + 4 * p)) (S (10 + 4 * p)) k))), h) := by
  by_cases c : S (10 + 4 * p) k.toNat = -1
  · simp (disch := omega) only [↓reduceIte, S0, S1, J_lt, J_le, J_eq, J_ldI, J_ldI3, J_ldB, J_ldL, J_ldR, J_stI, J_stB, J_stL, J_dv, j_gne, C0, CM, CP, CR, CJ, CS, CL, and_self, and_true, true_and, and_false, false_and, or_true, true_or, or_false, false_or, not_true_eq_false, not_false_eq_true, Option.map_some, J_ltT, J_ltF, J_leT, J_leF, J_eqT, J_eqF, J_ntT, J_ntF, E_Job_markAt hW, H.get, mark]
  · simp (disch := omega) only [↓reduceIte, S0, S1, J_lt, J_le, J_eq, J_ldI, J_ldI3, J_ldB, J_ldL, J_ldR, J_stI, J_stB, J_stL, J_dv, j_gne, C0, CM, CP, CR, CJ, CS, CL, and_self, and_true, true_and, and_false, false_and, or_true, true_or, or_false, false_or, not_true_eq_false, not_false_eq_true, Option.map_some, J_ltT, J_ltF, J_leT, J_leF, J_eqT, J_eqF, J_ntT, J_ntF, E_Job_markAt hW, H.get, mark]
theorem p_isMade (hW : xFix V W) (H : HP N h S T) {p : Nat} (hp : p < 4) (hm : S (8 + 4 * p) 3 = 0 ∨ S (8 + 4 * p) 3 = 1) : W m_Job_isMade (0, [some (.ref (N + (8 + 4 * p)))], []) h = some (.inl (some (jI (S (8 + 4 * p) 3))), h) := by
  rcases hm with e | e
  · simp (disch := omega) only [↓reduceIte, S0, S1, J_lt, J_le, J_eq, J_ldI, J_ldI3, J_ldB, J_ldL, J_ldR, J_stI, J_stB, J_stL, J_dv, j_gne, C0, CM, CP, CR, CJ, CS, CL, and_self, and_true, true_and, and_false, false_and, or_true, true_or, or_false, false_or, not_true_eq_false, not_false_eq_true, Option.map_some, J_ltT, J_ltF, J_leT, J_leF, J_eqT, J_eqF, J_ntT, J_ntF, E_Job_isMade hW, H.get, e]; rfl
  · simp (disch := omega) only [↓reduceIte, S0, S1, J_lt, J_le, J_eq, J_ldI, J_ldI3, J_ldB, J_ldL, J_ldR, J_stI, J_stB, J_stL, J_dv, j_gne, C0, CM, CP, CR, CJ, CS, CL, and_self, and_true, true_and, and_false, false_and, or_true, true_or, or_false, false_or, not_true_eq_false, not_false_eq_true, Option.map_some, J_ltT, J_ltF, J_leT, J_leF, J_eqT, J_eqF, J_ntT, J_ntF, E_Job_isMade hW, H.get, e]; rfl
theorem p_isSpread (hW : xFix V W) (H : HP N h S T) {p : Nat} (hp : p < 4) (hm : S (8 + 4 * p) 4 = 0 ∨ S (8 + 4 * p) 4 = 1) : W m_Job_isSpread (0, [some (.ref (N + (8 + 4 * p)))], []) h = some (.inl (some (jI (S (8 + 4 * p) 4))), h) := by
  rcases hm with e | e
  · simp (disch := omega) only [↓reduceIte, S0, S1, J_lt, J_le, J_eq, J_ldI, J_ldI3, J_ldB, J_ldL, J_ldR, J_stI, J_stB, J_stL, J_dv, j_gne, C0, CM, CP, CR, CJ, CS, CL, and_self, and_true, true_and, and_false, false_and, or_true, true_or, or_false, false_or, not_true_eq_false, not_false_eq_true, Option.map_some, J_ltT, J_ltF, J_leT, J_leF, J_eqT, J_eqF, J_ntT, J_ntF, E_Job_isSpread hW, H.get, e]; rfl
  · simp (disch := omega) only [↓reduceIte, S0, S1, J_lt, J_le, J_eq, J_ldI, J_ldI3, J_ldB, J_ldL, J_ldR, J_stI, J_stB, J_stL, J_dv, j_gne, C0, CM, CP, CR, CJ, CS, CL, and_self, and_true, true_and, and_false, false_and, or_true, true_or, or_false, false_or, not_true_eq_false, not_false_eq_true, Option.map_some, J_ltT, J_ltF, J_leT, J_leF, J_eqT, J_eqF, J_ntT, J_ntF, E_Job_isSpread hW, H.get, e]; rfl
theorem p_madeJob (hW : xFix V W) (H : HP N h S T) {p x y : Int} (hp : j32 p) (hx : j32 x) (hy : j32 y) (hm : ∀ q, q < 4 → S (8 + 4 * q) 3 = 0 ∨ S (8 + 4 * q) 3 = 1) :
    W m_Room_madeJob (0, [some (.ref N), some (.int (Int32.ofInt p)), some (.int (Int32.ofInt x)), some (.int (Int32.ofInt y))], []) h = if (0 ≤ p ∧ p < 4) ∧ (0 ≤ x ∧ x < 48) ∧ (0 ≤ y ∧ y < 64) then (if S (8 + 4 * p.toNat) 3 = 1 then some (.inl (some (.ref (N + (8 + 4 * p.toNat)))), h) else jX 10 h) else jX 8 h := by
  by_cases c1 : (0 ≤ p ∧ p < 4) ∧ (0 ≤ x ∧ x < 48) ∧ (0 ≤ y ∧ y < 64)
  · have hm' := hm p.toNat (by omega)
    rw [if_pos c1]
    by_cases c2 : S (8 + 4 * p.toNat) 3 = 1
    · rw [if_pos c2]
      simp (disch := omega) only [↓reduceIte, S0, S1, J_lt, J_le, J_eq, J_ldI, J_ldI3, J_ldB, J_ldL, J_ldR, J_stI, J_stB, J_stL, J_dv, j_gne, C0, CM, CP, CR, CJ, CS, CL, and_self, and_true, true_and, and_false, false_and, or_true, true_or, or_false, false_or, not_true_eq_false, not_false_eq_true, Option.map_some, J_ltT, J_ltF, J_leT, J_leF, J_eqT, J_eqF, J_ntT, J_ntF, E_Room_madeJob hW, p_needCell hW, H.get0, H.get, p_isMade hW H (show p.toNat < 4 by omega) hm', c2]
    · rw [if_neg c2]
      simp (disch := omega) only [↓reduceIte, S0, S1, J_lt, J_le, J_eq, J_ldI, J_ldI3, J_ldB, J_ldL, J_ldR, J_stI, J_stB, J_stL, J_dv, j_gne, C0, CM, CP, CR, CJ, CS, CL, and_self, and_true, true_and, and_false, false_and, or_true, true_or, or_false, false_or, not_true_eq_false, not_false_eq_true, Option.map_some, J_ltT, J_ltF, J_leT, J_leF, J_eqT, J_eqF, J_ntT, J_ntF, E_Room_madeJob hW, p_needCell hW, H.get0, H.get, p_isMade hW H (show p.toNat < 4 by omega) hm']
      rfl
  · rw [if_neg c1]
    simp (disch := omega) only [↓reduceIte, S0, S1, J_lt, J_le, J_eq, J_ldI, J_ldI3, J_ldB, J_ldL, J_ldR, J_stI, J_stB, J_stL, J_dv, j_gne, C0, CM, CP, CR, CJ, CS, CL, and_self, and_true, true_and, and_false, false_and, or_true, true_or, or_false, false_or, not_true_eq_false, not_false_eq_true, Option.map_some, E_Room_madeJob hW, p_needCell hW, c1, jX_ret X_Room_madeJob]
theorem q_amount (hW : xFix V W) (H : HP N h S T) {p c ink : Int} (hp : 0 ≤ p ∧ p < 4) (hc : 0 ≤ c ∧ c < 64) (hi : 0 ≤ ink ∧ ink < 8) :
    W m_Mod_amount (0, [some (.ref (N + 78)), some (.int (Int32.ofInt p)), some (.int (Int32.ofInt c)), some (.int (Int32.ofInt ink))], []) h = some (.inl (some (jI (S 84 (512 * p + 8 * c + ink).toNat))), h) := by
  simp (disch := omega) only [↓reduceIte, S0, S1, J_lt, J_le, J_eq, J_ldI, J_ldI3, J_ldB, J_ldL, J_ldR, J_stI, J_stB, J_stL, J_dv, j_gne, C0, CM, CP, CR, CJ, CS, CL, and_self, and_true, true_and, and_false, false_and, or_true, true_or, or_false, false_or, not_true_eq_false, not_false_eq_true, Option.map_some, J_ltT, J_ltF, J_leT, J_leF, J_eqT, J_eqF, J_ntT, J_ntF, E_Mod_amount hW, H.get]
/-- what the model has of a place -/
def amtM (C R A : Nat → Int) (p ink x y : Int) : Int :=
  mx (A (512 * p + 8 * C (3072 * p + 48 * y + x).toNat + ink).toNat) (if 0 < R (3072 * p + 48 * y + x).toNat then A (512 * p + 8 * (R (3072 * p + 48 * y + x).toNat - 1) + ink).toNat else 0)
theorem q_amountAt (hW : xFix V W) (H : HP N h S T) {p ink x y : Int} (hp : 0 ≤ p ∧ p < 4) (hi : 0 ≤ ink ∧ ink < 8) (hx : 0 ≤ x ∧ x < 48) (hy : 0 ≤ y ∧ y < 64) (hc : 0 ≤ S 83 (3072 * p + 48 * y + x).toNat ∧ S 83 (3072 * p + 48 * y + x).toNat < 64) (hl : 0 ≤ S 85 (3072 * p + 48 * y + x).toNat ∧ S 85 (3072 * p + 48 * y + x).toNat ≤ 64)
    (hA : ∀ j, j < 512 → 0 ≤ S 84 (512 * p.toNat + j) ∧ S 84 (512 * p.toNat + j) ≤ 255) :
    W m_Mod_amountAt (0, [some (.ref (N + 78)), some (.int (Int32.ofInt p)), some (.int (Int32.ofInt ink)), some (.int (Int32.ofInt x)), some (.int (Int32.ofInt y)), none, none, none], []) h = some (.inl (some (jI (amtM (S 83) (S 85) (S 84) p ink x y))), h) := by
  have b1 := hA (8 * S 83 (3072 * p + 48 * y + x).toNat + ink).toNat (by omega)
  rw [show 512 * p.toNat + (8 * S 83 (3072 * p + 48 * y + x).toNat + ink).toNat = (512 * p + 8 * S 83 (3072 * p + 48 * y + x).toNat + ink).toNat by omega] at b1
  by_cases c : 0 < S 85 (3072 * p + 48 * y + x).toNat
  · have b2 := hA (8 * (S 85 (3072 * p + 48 * y + x).toNat - 1) + ink).toNat (by omega)
    rw [show 512 * p.toNat + (8 * (S 85 (3072 * p + 48 * y + x).toNat - 1) + ink).toNat = (512 * p + 8 * (S 85 (3072 * p + 48 * y + x).toNat - 1) + ink).toNat by omega] at b2
    simp (disch := omega) only [↓reduceIte, S0, S1, J_lt, J_le, J_eq, J_ldI, J_ldI3, J_ldB, J_ldL, J_ldR, J_stI, J_stB, J_stL, J_dv, j_gne, C0, CM, CP, CR, CJ, CS, CL, and_self, and_true, true_and, and_false, false_and, or_true, true_or, or_false, false_or, not_true_eq_false, not_false_eq_true, Option.map_some, J_ltT, J_ltF, J_leT, J_leF, J_eqT, J_eqF, J_ntT, J_ntF, E_Mod_amountAt hW, H.get, q_at hW, q_amount hW H, amtM]
    unfold mx
    split <;> split <;> first | rfl | omega
  · simp (disch := omega) only [↓reduceIte, S0, S1, J_lt, J_le, J_eq, J_ldI, J_ldI3, J_ldB, J_ldL, J_ldR, J_stI, J_stB, J_stL, J_dv, j_gne, C0, CM, CP, CR, CJ, CS, CL, and_self, and_true, true_and, and_false, false_and, or_true, true_or, or_false, false_or, not_true_eq_false, not_false_eq_true, Option.map_some, J_ltT, J_ltF, J_leT, J_leF, J_eqT, J_eqF, J_ntT, J_ntF, E_Mod_amountAt hW, H.get, q_at hW, q_amount hW H, amtM]
    unfold mx
    split <;> first | rfl | omega
end PL
