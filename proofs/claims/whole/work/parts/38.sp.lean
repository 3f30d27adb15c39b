/-! parting a colour -/
theorem mn_le_l (a b : Int) : mn a b ≤ a := by unfold mn; split <;> omega
theorem mn_le_r (a b : Int) : mn a b ≤ b := by unfold mn; split <;> omega
theorem mn_ge {a b c : Int} (h1 : c ≤ a) (h2 : c ≤ b) : c ≤ mn a b := by unfold mn; split <;> omega
theorem share_le {a s : Int} (h1 : 0 ≤ a) (h2 : 0 ≤ s) (h3 : s ≤ 100) : 0 ≤ a * s ∧ a * s ≤ a * 100 ∧ 0 ≤ a * s / 100 ∧ a * s / 100 ≤ a := by
  have e1 : 0 ≤ a * s := Int.mul_nonneg h1 h2
  have e2 : a * s ≤ a * 100 := Int.mul_le_mul_of_nonneg_left h3 h1
  omega
/-- what goes to black -/
def gy (a0 a1 a2 a3 s : Int) : Int := mn (mn a0 (mn a1 a2) * s / 100) (255 - a3)
theorem gy_rng {a0 a1 a2 a3 s : Int} (h0 : 0 ≤ a0 ∧ a0 ≤ 255) (h1 : 0 ≤ a1 ∧ a1 ≤ 255) (h2 : 0 ≤ a2 ∧ a2 ≤ 255) (h3 : 0 ≤ a3 ∧ a3 ≤ 255) (hs : 0 ≤ s ∧ s ≤ 100) :
    0 ≤ mn a0 (mn a1 a2) * s ∧ mn a0 (mn a1 a2) * s ≤ 25500 ∧ 0 ≤ gy a0 a1 a2 a3 s ∧ gy a0 a1 a2 a3 s ≤ a0 ∧ gy a0 a1 a2 a3 s ≤ a1 ∧ gy a0 a1 a2 a3 s ≤ a2 ∧ gy a0 a1 a2 a3 s ≤ 255 - a3 := by
  have e0 := mn_le_l a0 (mn a1 a2)
  have e1 := mn_le_r a0 (mn a1 a2)
  have e2 := mn_le_l a1 a2
  have e3 := mn_le_r a1 a2
  have e4 : 0 ≤ mn a0 (mn a1 a2) := mn_ge h0.1 (mn_ge h1.1 h2.1)
  obtain ⟨s1, s2, s3, s4⟩ := share_le e4 hs.1 hs.2
  have g1 := mn_le_l (mn a0 (mn a1 a2) * s / 100) (255 - a3)
  have g2 := mn_le_r (mn a0 (mn a1 a2) * s / 100) (255 - a3)
  have g3 : 0 ≤ mn (mn a0 (mn a1 a2) * s / 100) (255 - a3) := mn_ge s3 (by omega)
  unfold gy
  exact ⟨s1, by omega, g3, by omega, by omega, by omega, g2⟩
def mtb (A : Nat → Int) (f s : Int) : Nat → Int :=
  jup (jup (jup (jup A f.toNat (A f.toNat - gy (A f.toNat) (A (f + 1).toNat) (A (f + 2).toNat) (A (f + 3).toNat) s)) (f + 1).toNat (A (f + 1).toNat - gy (A f.toNat) (A (f + 1).toNat) (A (f + 2).toNat) (A (f + 3).toNat) s)) (f + 2).toNat (A (f + 2).toNat - gy (A f.toNat) (A (f + 1).toNat) (A (f + 2).toNat) (A (f + 3).toNat) s)) (f + 3).toNat (A (f + 3).toNat + gy (A f.toNat) (A (f + 1).toNat) (A (f + 2).toNat) (A (f + 3).toNat) s)
def klm (A : Nat → Int) (f l : Int) : Nat → Int :=
  if A f.toNat + A (f + 1).toNat + A (f + 2).toNat = 0 ∨ A f.toNat + A (f + 1).toNat + A (f + 2).toNat + A (f + 3).toNat ≤ l then A
  else jup (jup (jup A f.toNat (A f.toNat * mx (l - A (f + 3).toNat) 0 / (A f.toNat + A (f + 1).toNat + A (f + 2).toNat))) (f + 1).toNat (A (f + 1).toNat * mx (l - A (f + 3).toNat) 0 / (A f.toNat + A (f + 1).toNat + A (f + 2).toNat))) (f + 2).toNat (A (f + 2).toNat * mx (l - A (f + 3).toNat) 0 / (A f.toNat + A (f + 1).toNat + A (f + 2).toNat))
section SP
variable {V : Nat → Value} {W : xWt} {N : Nat} {h : xH} {S : Nat → Nat → Int} {T : Nat → Nat → Int64}
theorem p_fillA (hW : xFix V W) {q m : Nat} {v : Int} (hm : m ≤ 2147483647) : ∀ (n : Nat) (k : Int) (F : Nat → Int) (h : xH), h.1 q = some (jA 0 m F) → 0 ≤ k → k + n = m →
    W m_Arrays_fill (5, [some (.ref q), some (.int (Int32.ofInt v)), some (.int (Int32.ofInt k)), some (.int (Int32.ofInt m))], []) h = some (.inl none, xset h q (jA 0 m (fillF v n k F))) := by
  intro n
  induction n with
  | zero =>
    intro k F h hq h0 h1
    rw [L_Arrays_fill_5 hW, show fillF v 0 k F = F from rfl, j_id h hq]
    simp (disch := omega) only [↓reduceIte, S0, S1, J_lt, J_le, J_eq, J_ldI, J_ldI3, J_ldB, J_ldL, J_ldR, J_stI, J_stB, J_stL, J_dv, j_gne, C0, CM, CP, CR, CJ, CS, CL, and_self, and_true, true_and, and_false, false_and, or_true, true_or, or_false, false_or, not_true_eq_false, not_false_eq_true, Option.map_some, J_ltT, J_ltF, J_leT, J_leF, J_eqT, J_eqF, J_ntT, J_ntF, E_Arrays_fill hW]
  | succ n ih =>
    intro k F h hq h0 h1
    rw [L_Arrays_fill_5 hW]
    have ih1 := ih (k + 1) (jup F k.toNat v) (xset h q (jA 0 m (jup F k.toNat v))) (j_get _ _ _) (by omega) (by omega)
    simp (disch := omega) only [↓reduceIte, S0, S1, J_lt, J_le, J_eq, J_ldI, J_ldI3, J_ldB, J_ldL, J_ldR, J_stI, J_stB, J_stL, J_dv, j_gne, C0, CM, CP, CR, CJ, CS, CL, and_self, and_true, true_and, and_false, false_and, or_true, true_or, or_false, false_or, not_true_eq_false, not_false_eq_true, Option.map_some, J_ltT, J_ltF, J_leT, J_leF, J_eqT, J_eqF, J_ntT, J_ntF, E_Arrays_fill hW, hq, ih1]
    rfl
theorem j_aln {t n : Nat} {F : Nat → Int} : xaln (some (jA t n F)) = some (.int (Int32.ofInt (n : Int))) := by
  show some (Value.int (Int32.ofNat n)) = _
  rw [Int32.ofInt_eq_ofNat]
theorem p_fill (hW : xFix V W) {q m : Nat} {v : Int} {F : Nat → Int} {h : xH} (hm : m ≤ 2147483647) (hq : h.1 q = some (jA 0 m F)) :
    W m_Arrays_fill (0, [some (.ref q), some (.int (Int32.ofInt v)), none, none], []) h = some (.inl none, xset h q (jA 0 m (fillF v m 0 F))) := by
  simp (disch := omega) only [↓reduceIte, S0, S1, J_lt, J_le, J_eq, J_ldI, J_ldI3, J_ldB, J_ldL, J_ldR, J_stI, J_stB, J_stL, J_dv, j_gne, C0, CM, CP, CR, CJ, CS, CL, and_self, and_true, true_and, and_false, false_and, or_true, true_or, or_false, false_or, not_true_eq_false, not_false_eq_true, Option.map_some, E_Arrays_fill hW, hq, j_aln]
  exact p_fillA hW hm m 0 F h hq (by omega) (by omega)
theorem p_moveToBlack (hW : xFix V W) {p : Nat} (hp : p < 4) {FJ : Nat → Int} {GJ : Nat → Int64} {A : Nat → Int} {h : xH} (ho : h.1 (N + (8 + 4 * p)) = some (cell N (8 + 4 * p) FJ GJ)) (ha : h.1 (N + (11 + 4 * p)) = some (jA 0 512 A)) {f s : Int} (hf : 0 ≤ f ∧ f + 8 ≤ 512) (hs : 0 ≤ s ∧ s ≤ 100) (hA : ∀ j, j < 512 → 0 ≤ A j ∧ A j ≤ 255) :
    W m_Job_moveToBlack (0, [some (.ref (N + (8 + 4 * p))), some (.int (Int32.ofInt f)), some (.int (Int32.ofInt s)), none, none, none], []) h = some (.inl none, xset h (N + (11 + 4 * p)) (jA 0 512 (mtb A f s))) := by
  have h0 := hA f.toNat (by omega)
  have h1 := hA (f + 1).toNat (by omega)
  have h2 := hA (f + 2).toNat (by omega)
  have h3 := hA (f + 3).toNat (by omega)
  obtain ⟨g1, g2, g3, g4, g5, g6, g7⟩ := gy_rng h0 h1 h2 h3 hs
  have m1 : 0 ≤ mn (A (f + 1).toNat) (A (f + 2).toNat) ∧ mn (A (f + 1).toNat) (A (f + 2).toNat) ≤ 255 := ⟨mn_ge h1.1 h2.1, by have := mn_le_l (A (f + 1).toNat) (A (f + 2).toNat); omega⟩
  have e0 : f + 0 = f := by omega
  have eg : mn (mn (A f.toNat) (mn (A (f + 1).toNat) (A (f + 2).toNat)) * s / 100) (255 - A (f + 3).toNat) = gy (A f.toNat) (A (f + 1).toNat) (A (f + 2).toNat) (A (f + 3).toNat) s := rfl
  have m2 : 0 ≤ mn (A f.toNat) (mn (A (f + 1).toNat) (A (f + 2).toNat)) ∧ mn (A f.toNat) (mn (A (f + 1).toNat) (A (f + 2).toNat)) ≤ 255 := ⟨mn_ge h0.1 m1.1, by have := mn_le_l (A f.toNat) (mn (A (f + 1).toNat) (A (f + 2).toNat)); omega⟩
  simp (disch := omega) only [↓reduceIte, S0, S1, J_lt, J_le, J_eq, J_ldI, J_ldI3, J_ldB, J_ldL, J_ldR, J_stI, J_stB, J_stL, J_dv, j_gne, C0, CM, CP, CR, CJ, CS, CL, and_self, and_true, true_and, and_false, false_and, or_true, true_or, or_false, false_or, not_true_eq_false, not_false_eq_true, Option.map_some, J_ltT, J_ltF, J_leT, J_leF, J_eqT, J_eqF, J_ntT, J_ntF, E_Job_moveToBlack hW, L_Job_moveToBlack_55 hW, ho, ha, p_min hW, jup_ne, jup_same, e0, J_div, eg, Int.zero_add, show (1 : Int) + 1 = 2 from rfl, show (2 : Int) + 1 = 3 from rfl]
  rfl
theorem p_keepLimit (hW : xFix V W) {p : Nat} (hp : p < 4) {FJ : Nat → Int} {GJ : Nat → Int64} {A : Nat → Int} {h : xH} (ho : h.1 (N + (8 + 4 * p)) = some (cell N (8 + 4 * p) FJ GJ)) (ha : h.1 (N + (11 + 4 * p)) = some (jA 0 512 A)) {f l : Int} (hf : 0 ≤ f ∧ f + 8 ≤ 512) (hl : 200 ≤ l ∧ l ≤ 1020) (hA : ∀ j, j < 512 → 0 ≤ A j ∧ A j ≤ 255) :
    W m_Job_keepLimit (0, [some (.ref (N + (8 + 4 * p))), some (.int (Int32.ofInt f)), some (.int (Int32.ofInt l)), none, none, none, none], []) h = some (.inl none, xset h (N + (11 + 4 * p)) (jA 0 512 (klm A f l))) := by
  have h0 := hA f.toNat (by omega)
  have h1 := hA (f + 1).toNat (by omega)
  have h2 := hA (f + 2).toNat (by omega)
  have h3 := hA (f + 3).toNat (by omega)
  have e0 : f + 0 = f := by omega
  by_cases c1 : A f.toNat + A (f + 1).toNat + A (f + 2).toNat = 0 ∨ A f.toNat + A (f + 1).toNat + A (f + 2).toNat + A (f + 3).toNat ≤ l
  · have ek : klm A f l = A := by unfold klm; rw [if_pos c1]
    rw [ek, j_id h ha]
    by_cases c2 : A f.toNat + A (f + 1).toNat + A (f + 2).toNat = 0
    · simp (disch := omega) only [↓reduceIte, S0, S1, J_lt, J_le, J_eq, J_ldI, J_ldI3, J_ldB, J_ldL, J_ldR, J_stI, J_stB, J_stL, J_dv, j_gne, C0, CM, CP, CR, CJ, CS, CL, and_self, and_true, true_and, and_false, false_and, or_true, true_or, or_false, false_or, not_true_eq_false, not_false_eq_true, Option.map_some, J_ltT, J_ltF, J_leT, J_leF, J_eqT, J_eqF, J_ntT, J_ntF, E_Job_keepLimit hW, ho, ha]
    · simp (disch := omega) only [↓reduceIte, S0, S1, J_lt, J_le, J_eq, J_ldI, J_ldI3, J_ldB, J_ldL, J_ldR, J_stI, J_stB, J_stL, J_dv, j_gne, C0, CM, CP, CR, CJ, CS, CL, and_self, and_true, true_and, and_false, false_and, or_true, true_or, or_false, false_or, not_true_eq_false, not_false_eq_true, Option.map_some, J_ltT, J_ltF, J_leT, J_leF, J_eqT, J_eqF, J_ntT, J_ntF, E_Job_keepLimit hW, ho, ha]
  · unfold klm
    rw [if_neg c1]
    have rm : 0 ≤ mx (l - A (f + 3).toNat) 0 ∧ mx (l - A (f + 3).toNat) 0 ≤ 1020 := by unfold mx; split <;> omega
    have n0 : 0 ≤ A f.toNat * mx (l - A (f + 3).toNat) 0 ∧ A f.toNat * mx (l - A (f + 3).toNat) 0 ≤ 255 * 1020 := ⟨Int.mul_nonneg h0.1 rm.1, Int.mul_le_mul h0.2 rm.2 rm.1 (by omega)⟩
    have n1 : 0 ≤ A (f + 1).toNat * mx (l - A (f + 3).toNat) 0 ∧ A (f + 1).toNat * mx (l - A (f + 3).toNat) 0 ≤ 255 * 1020 := ⟨Int.mul_nonneg h1.1 rm.1, Int.mul_le_mul h1.2 rm.2 rm.1 (by omega)⟩
    have n2 : 0 ≤ A (f + 2).toNat * mx (l - A (f + 3).toNat) 0 ∧ A (f + 2).toNat * mx (l - A (f + 3).toNat) 0 ≤ 255 * 1020 := ⟨Int.mul_nonneg h2.1 rm.1, Int.mul_le_mul h2.2 rm.2 rm.1 (by omega)⟩
    simp (disch := omega) only [↓reduceIte, S0, S1, J_lt, J_le, J_eq, J_ldI, J_ldI3, J_ldB, J_ldL, J_ldR, J_stI, J_stB, J_stL, J_dv, j_gne, C0, CM, CP, CR, CJ, CS, CL, and_self, and_true, true_and, and_false, false_and, or_true, true_or, or_false, false_or, not_true_eq_false, not_false_eq_true, Option.map_some, J_ltT, J_ltF, J_leT, J_leF, J_eqT, J_eqF, J_ntT, J_ntF, E_Job_keepLimit hW, L_Job_keepLimit_61 hW, ho, ha, p_max hW, jup_ne, jup_same, e0, J_div, Int.zero_add, show (1 : Int) + 1 = 2 from rfl, show (2 : Int) + 1 = 3 from rfl]
end SP
