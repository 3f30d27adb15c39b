section TP
variable {V : Nat → Value} {W : xWt} {N : Nat} {T : Nat → Nat → Int64}
theorem p_trap (hW : xFix V W) {p w : Int} (hp : j32 p) (hw : j32 w) {B : Nat → Int} {a : Nat} (haN : a < N) (hv : V 0 = .ref a) (hB : ∀ j, j < 8 → 0 ≤ B j ∧ B j ≤ 100) {h : xH} {S : Nat → Nat → Int} (H : HP N h S T) (hb : h.1 a = some (jA 3 8 B)) (hm : ∀ q, q < 4 → (S (8 + 4 * q) 3 = 0 ∨ S (8 + 4 * q) 3 = 1) ∧ (S (8 + 4 * q) 4 = 0 ∨ S (8 + 4 * q) 4 = 1)) (hJ : ∀ q, q < 4 → S (8 + 4 * q) 3 = 1 → JR S q) :
    if 0 ≤ p ∧ p < 4 then (if 1 ≤ w ∧ w ≤ 3 then (if S (8 + 4 * p.toNat) 3 = 1 ∧ S (8 + 4 * p.toNat) 4 = 0 then ∃ h' S' T', W m_Room_trap (0, [some (.ref N), some (.int (Int32.ofInt p)), some (.int (Int32.ofInt w)), none], []) h = some (.inl (some (jI (cq (S' (10 + 4 * p.toNat)) 3072 0 - cq (S (10 + 4 * p.toNat)) 3072 0))), h') ∧ HP N h' S' T' ∧ h'.2 = h.2 ∧ (∀ j, j ≠ 25 → j ≠ 26 → j ≠ 8 + 4 * p.toNat → j ≠ 10 + 4 * p.toNat → S' j = S j) ∧ S' (8 + 4 * p.toNat) = jup (S (8 + 4 * p.toNat)) 4 1 ∧ (∀ q, q < 3072 → -1 ≤ S' (10 + 4 * p.toNat) q ∧ S' (10 + 4 * p.toNat) q < 64) ∧ RR (S (9 + 4 * p.toNat)) (QF (S (11 + 4 * p.toNat)) B (S (9 + 4 * p.toNat))) w.toNat 0 (S (10 + 4 * p.toNat)) (S' (10 + 4 * p.toNat))
      else W m_Room_trap (0, [some (.ref N), some (.int (Int32.ofInt p)), some (.int (Int32.ofInt w)), none], []) h = jX 10 h) else W m_Room_trap (0, [some (.ref N), some (.int (Int32.ofInt p)), some (.int (Int32.ofInt w)), none], []) h = jX 9 h) else W m_Room_trap (0, [some (.ref N), some (.int (Int32.ofInt p)), some (.int (Int32.ofInt w)), none], []) h = jX 8 h := by
  by_cases c1 : 0 ≤ p ∧ p < 4
  · rw [if_pos c1]
    by_cases c2 : 1 ≤ w ∧ w ≤ 3
    · rw [if_pos c2]
      have hp4 : p.toNat < 4 := by omega
      obtain ⟨m1, m2⟩ := hm p.toNat hp4
      have i1 := p_isMade hW H hp4 m1
      have i2 := p_isSpread hW H hp4 m2
      by_cases c3 : S (8 + 4 * p.toNat) 3 = 1 ∧ S (8 + 4 * p.toNat) 4 = 0
      · rw [if_pos c3]
        have J := hJ p.toNat hp4 c3.1
        have ew : ((w.toNat : Nat) : Int) = w := by omega
        obtain ⟨h', S', T', r1, r2, r3, r4, r5, r6, r7⟩ := p_spread hW hp4 (A := S (11 + 4 * p.toNat)) (B := B) (C := S (9 + 4 * p.toNat)) haN hv (fun j hj => by have := J.2.2 j hj; omega) hB (fun j hj => by have := J.1 j hj; omega) (w := w.toNat) (by omega) H hb rfl rfl (fun q hq => by have := J.2.1 q hq; omega)
        rw [ew] at r1
        refine ⟨h', S', T', ?_, r2, r3, r4, r5, r6, r7⟩
        simp (disch := omega) only [↓reduceIte, S0, S1, J_lt, J_le, J_eq, J_ldI, J_ldI3, J_ldB, J_ldL, J_ldR, J_stI, J_stB, J_stL, J_dv, j_gne, C0, CM, CP, CR, CJ, CS, CL, and_self, and_true, true_and, and_false, false_and, or_true, true_or, or_false, false_or, not_true_eq_false, not_false_eq_true, Option.map_some, J_ltT, J_ltF, J_leT, J_leF, J_eqT, J_eqF, J_ntT, J_ntF, E_Room_trap hW, p_needIndex hW, p_needBetween hW, c1, c2, H.get0, H.get, i1, i2, c3.1, c3.2, r1]
      · rw [if_neg c3]
        by_cases c4 : S (8 + 4 * p.toNat) 3 = 1
        · have c5 : S (8 + 4 * p.toNat) 4 = 1 := by omega
          simp (disch := omega) only [↓reduceIte, S0, S1, J_lt, J_le, J_eq, J_ldI, J_ldI3, J_ldB, J_ldL, J_ldR, J_stI, J_stB, J_stL, J_dv, j_gne, C0, CM, CP, CR, CJ, CS, CL, and_self, and_true, true_and, and_false, false_and, or_true, true_or, or_false, false_or, not_true_eq_false, not_false_eq_true, Option.map_some, J_ltT, J_ltF, J_leT, J_leF, J_eqT, J_eqF, J_ntT, J_ntF, E_Room_trap hW, p_needIndex hW, p_needBetween hW, c1, c2, H.get0, H.get, i1, i2, c4, c5]
          rfl
        · have c5 : S (8 + 4 * p.toNat) 3 = 0 := by omega
          simp (disch := omega) only [↓reduceIte, S0, S1, J_lt, J_le, J_eq, J_ldI, J_ldI3, J_ldB, J_ldL, J_ldR, J_stI, J_stB, J_stL, J_dv, j_gne, C0, CM, CP, CR, CJ, CS, CL, and_self, and_true, true_and, and_false, false_and, or_true, true_or, or_false, false_or, not_true_eq_false, not_false_eq_true, Option.map_some, J_ltT, J_ltF, J_leT, J_leF, J_eqT, J_eqF, J_ntT, J_ntF, E_Room_trap hW, p_needIndex hW, p_needBetween hW, c1, c2, H.get0, H.get, i1, c5]
          rfl
    · rw [if_neg c2]
      simp (disch := omega) only [↓reduceIte, S0, S1, J_lt, J_le, J_eq, J_ldI, J_ldI3, J_ldB, J_ldL, J_ldR, J_stI, J_stB, J_stL, J_dv, j_gne, C0, CM, CP, CR, CJ, CS, CL, and_self, and_true, true_and, and_false, false_and, or_true, true_or, or_false, false_or, not_true_eq_false, not_false_eq_true, Option.map_some, E_Room_trap hW, p_needIndex hW, p_needBetween hW, c1, c2, jX_ret X_Room_trap]
  · rw [if_neg c1]
    simp (disch := omega) only [↓reduceIte, S0, S1, J_lt, J_le, J_eq, J_ldI, J_ldI3, J_ldB, J_ldL, J_ldR, J_stI, J_stB, J_stL, J_dv, j_gne, C0, CM, CP, CR, CJ, CS, CL, and_self, and_true, true_and, and_false, false_and, or_true, true_or, or_false, false_or, not_true_eq_false, not_false_eq_true, Option.map_some, E_Room_trap hW, p_needIndex hW, c1, jX_ret X_Room_trap]
end TP
