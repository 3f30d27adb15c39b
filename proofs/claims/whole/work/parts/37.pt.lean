section PT
variable {V : Nat → Value} {W : xWt} {N : Nat} {h : xH} {S : Nat → Nat → Int} {T : Nat → Nat → Int64}
/-- the answer of trapped -/
def markM (C R : Nat → Int) (p x y : Int) : Int := if R (3072 * p + 48 * y + x).toNat = 0 then 0 else 1 + 64 * (R (3072 * p + 48 * y + x).toNat - 1) + C (3072 * p + 48 * y + x).toNat
theorem p_trapped (hW : xFix V W) (H : HP N h S T) {p x y : Int} (hp : j32 p) (hx : j32 x) (hy : j32 y) (hm : ∀ q, q < 4 → S (8 + 4 * q) 3 = 0 ∨ S (8 + 4 * q) 3 = 1) (hJ : ∀ q, q < 4 → S (8 + 4 * q) 3 = 1 → JR S q) :
    W m_Room_trapped (0, [some (.ref N), some (.int (Int32.ofInt p)), some (.int (Int32.ofInt x)), some (.int (Int32.ofInt y))], []) h = if (0 ≤ p ∧ p < 4) ∧ (0 ≤ x ∧ x < 48) ∧ (0 ≤ y ∧ y < 64) then (if S (8 + 4 * p.toNat) 3 = 1 then some (.inl (some (jI (markM (S 83) (S 85) p x y))), h) else jX 10 h) else jX 8 h := by
  by_cases c1 : (0 ≤ p ∧ p < 4) ∧ (0 ≤ x ∧ x < 48) ∧ (0 ≤ y ∧ y < 64)
  · rw [if_pos c1]
    by_cases c3 : S (8 + 4 * p.toNat) 3 = 1
    · rw [if_pos c3]
      have J := hJ p.toNat (by omega) c3
      have ep : ((p.toNat : Nat) : Int) = p := by omega
      have e := mark_eq J c1.2.1 c1.2.2
      rw [ep] at e
      obtain ⟨a1, a2, a3⟩ := J.1 (y * 48 + x).toNat (by omega)
      obtain ⟨b1, b2, b3⟩ := J.2.1 (y * 48 + x).toNat (by omega)
      have r := p_markAt hW H (p := p.toNat) (by omega) (k := y * 48 + x) (by omega) (by omega) (by omega)
      rw [e] at r
      simp (disch := omega) only [↓reduceIte, S0, S1, J_lt, J_le, J_eq, J_ldI, J_ldI3, J_ldB, J_ldL, J_ldR, J_stI, J_stB, J_stL, J_dv, j_gne, C0, CM, CP, CR, CJ, CS, CL, and_self, and_true, true_and, and_false, false_and, or_true, true_or, or_false, false_or, not_true_eq_false, not_false_eq_true, Option.map_some, J_ltT, J_ltF, J_leT, J_leF, J_eqT, J_eqF, J_ntT, J_ntF, E_Room_trapped hW, H.get0, p_madeJob hW H hp hx hy hm, c1, c3, p_cellAt hW, H.get, r]
      rfl
    · rw [if_neg c3]
      simp (disch := omega) only [↓reduceIte, S0, S1, J_lt, J_le, J_eq, J_ldI, J_ldI3, J_ldB, J_ldL, J_ldR, J_stI, J_stB, J_stL, J_dv, j_gne, C0, CM, CP, CR, CJ, CS, CL, and_self, and_true, true_and, and_false, false_and, or_true, true_or, or_false, false_or, not_true_eq_false, not_false_eq_true, Option.map_some, E_Room_trapped hW, H.get0, p_madeJob hW H hp hx hy hm, c1, c3, jX_ret X_Room_trapped]
  · rw [if_neg c1]
    simp (disch := omega) only [↓reduceIte, S0, S1, J_lt, J_le, J_eq, J_ldI, J_ldI3, J_ldB, J_ldL, J_ldR, J_stI, J_stB, J_stL, J_dv, j_gne, C0, CM, CP, CR, CJ, CS, CL, and_self, and_true, true_and, and_false, false_and, or_true, true_or, or_false, false_or, not_true_eq_false, not_false_eq_true, Option.map_some, E_Room_trapped hW, H.get0, p_madeJob hW H hp hx hy hm, c1, jX_ret X_Room_trapped]
theorem q_trapped (hW : xFix V W) (H : HP N h S T) {p x y : Int} (hp : j32 p) (hx : j32 x) (hy : j32 y) (hm : ∀ q, q < 4 → S 81 q = 0 ∨ S 81 q = 1) (hJ : ∀ q, q < 4 → S 81 q = 1 → JR S q) :
    W m_Mod_trapped (0, [some (.ref (N + 78)), some (.int (Int32.ofInt p)), some (.int (Int32.ofInt x)), some (.int (Int32.ofInt y)), none], []) h = if (0 ≤ p ∧ p < 4) ∧ (0 ≤ x ∧ x < 48) ∧ (0 ≤ y ∧ y < 64) then (if S 81 p.toNat = 1 then some (.inl (some (jI (markM (S 83) (S 85) p x y))), hth N h S T 0) else some (.inl (some (jI 0)), hth N h S T 2)) else some (.inl (some (jI 0)), hth N h S T 1) := by
  have H1 := H.th 0
  have r0 := q_has hW H1 (by rw [sup_same, jup_same]) (p := p) (ink := 0) (x := x) (y := y) hp ⟨by omega, by omega⟩ hx hy (by simp (disch := omega) only [sup_ne]; exact hm)
  simp (disch := omega) only [sup_ne, hth_hth] at r0
  by_cases c1 : (0 ≤ p ∧ p < 4) ∧ (0 ≤ x ∧ x < 48) ∧ (0 ≤ y ∧ y < 64)
  · rw [if_pos ⟨c1, by omega⟩] at r0
    rw [if_pos c1]
    by_cases c3 : S 81 p.toNat = 1
    · rw [if_pos c3] at r0 ⊢
      have J := hJ p.toNat (by omega) c3
      obtain ⟨a1, a2, a3⟩ := J.1 (48 * y + x).toNat (by omega)
      obtain ⟨b1, b2, b3⟩ := J.2.1 (48 * y + x).toNat (by omega)
      rw [show 3072 * p.toNat + (48 * y + x).toNat = (3072 * p + 48 * y + x).toNat by omega] at a1 a2 a3 b1 b2 b3
      unfold markM
      by_cases c4 : S 85 (3072 * p + 48 * y + x).toNat = 0
      · simp (disch := omega) only [↓reduceIte, S0, S1, J_lt, J_le, J_eq, J_ldI, J_ldI3, J_ldB, J_ldL, J_ldR, J_stI, J_stB, J_stL, J_dv, j_gne, C0, CM, CP, CR, CJ, CS, CL, and_self, and_true, true_and, and_false, false_and, or_true, true_or, or_false, false_or, not_true_eq_false, not_false_eq_true, Option.map_some, J_ltT, J_ltF, J_leT, J_leF, J_eqT, J_eqF, J_ntT, J_ntF, E_Mod_trapped hW, H.get, r0, q_at hW]
      · simp (disch := omega) only [↓reduceIte, S0, S1, J_lt, J_le, J_eq, J_ldI, J_ldI3, J_ldB, J_ldL, J_ldR, J_stI, J_stB, J_stL, J_dv, j_gne, C0, CM, CP, CR, CJ, CS, CL, and_self, and_true, true_and, and_false, false_and, or_true, true_or, or_false, false_or, not_true_eq_false, not_false_eq_true, Option.map_some, J_ltT, J_ltF, J_leT, J_leF, J_eqT, J_eqF, J_ntT, J_ntF, E_Mod_trapped hW, H.get, r0, q_at hW]
    · rw [if_neg c3] at r0 ⊢
      simp (disch := omega) only [↓reduceIte, S0, S1, J_lt, J_le, J_eq, J_ldI, J_ldI3, J_ldB, J_ldL, J_ldR, J_stI, J_stB, J_stL, J_dv, j_gne, C0, CM, CP, CR, CJ, CS, CL, and_self, and_true, true_and, and_false, false_and, or_true, true_or, or_false, false_or, not_true_eq_false, not_false_eq_true, Option.map_some, E_Mod_trapped hW, H.get, r0]
  · rw [if_neg (fun q => c1 q.1)] at r0
    rw [if_neg c1]
    simp (disch := omega) only [↓reduceIte, S0, S1, J_lt, J_le, J_eq, J_ldI, J_ldI3, J_ldB, J_ldL, J_ldR, J_stI, J_stB, J_stL, J_dv, j_gne, C0, CM, CP, CR, CJ, CS, CL, and_self, and_true, true_and, and_false, false_and, or_true, true_or, or_false, false_or, not_true_eq_false, not_false_eq_true, Option.map_some, E_Mod_trapped hW, H.get, r0]
end PT
