/-! what is laid, on both sides -/
def SR (S : Nat → Nat → Int) : Prop := S 59 2 = S 78 21 ∧ S 59 3 = S 78 23 ∧ S 59 4 = S 78 24 ∧ (S 78 21 ≠ 0 → (1 ≤ S 78 21 ∧ S 78 21 ≤ 32) ∧ (2 ≤ S 78 23 ∧ S 78 23 ≤ 16 ∧ (S 78 23 = 2 ∨ 4 ≤ S 78 23)) ∧ (0 ≤ S 78 24 ∧ S 78 24 ≤ 1000) ∧
  (∀ s : Nat, (s : Int) < S 78 23 → (S (61 + s) 2 = S 100 s ∧ S (61 + s) 3 = S 96 s ∧ S (61 + s) 4 = S 97 s) ∧ (0 ≤ S 100 s ∧ S 100 s < S 78 23) ∧ (0 ≤ S 96 s ∧ S 96 s ≤ 1) ∧ (0 ≤ S 97 s ∧ S 97 s ≤ 1)) ∧ ∀ j : Nat, (j : Int) < S 78 23 → S 77 j = S 95 j ∧ 0 ≤ S 95 j ∧ S 95 j < S 78 23)
/-- the answers of slot and of read -/
def slotV (S : Nat → Nat → Int) (sh sd s w : Int) : Int :=
  if w = 0 then sh * 2 * S 78 23 + (2 * S 100 s.toNat + (if sd = S 96 s.toNat then 0 else 1)) else if w = 1 then S 97 s.toNat else if S 78 23 = 2 then 0 else S 78 24 * mn (S 100 s.toNat) (S 78 23 - 1 - S 100 s.toNat) / (S 78 23 / 2 - 1)
def readV (S : Nat → Nat → Int) (k w : Int) : Int :=
  if w = 0 then S 95 (k / 2).toNat else if k % 2 = 0 then S 96 (S 95 (k / 2).toNat).toNat else 1 - S 96 (S 95 (k / 2).toNat).toNat
section SRS
variable {V : Nat → Value} {W : xWt} {N : Nat} {T : Nat → Nat → Int64} {h : xH} {S : Nat → Nat → Int}
theorem p_needLaid (hW : xFix V W) (H : HP N h S T) (R : SR S) : W m_Room_needLaid (0, [some (.ref N)], []) h = if S 78 21 = 0 then jX 10 h else some (.inl none, h) := by
  obtain ⟨r1, r2, r3, r4⟩ := R
  by_cases e : S 78 21 = 0
  · rw [if_pos e]
    simp (disch := omega) only [↓reduceIte, S0, S1, J_lt, J_le, J_eq, J_ldI, J_ldI3, J_ldB, J_ldL, J_ldR, J_stI, J_stB, J_stL, J_dv, j_gne, C0, CM, CP, CR, CJ, CS, CL, and_self, and_true, true_and, and_false, false_and, or_true, true_or, or_false, false_or, not_true_eq_false, not_false_eq_true, Option.map_some, J_ltT, J_ltF, J_leT, J_leF, J_eqT, J_eqF, J_ntT, J_ntF, E_Room_needLaid hW, H.get0, H.get, E_She_sheetCount hW, r1, e]
    rfl
  · rw [if_neg e]
    obtain ⟨b1, -⟩ := r4 e
    simp (disch := omega) only [↓reduceIte, S0, S1, J_lt, J_le, J_eq, J_ldI, J_ldI3, J_ldB, J_ldL, J_ldR, J_stI, J_stB, J_stL, J_dv, j_gne, C0, CM, CP, CR, CJ, CS, CL, and_self, and_true, true_and, and_false, false_and, or_true, true_or, or_false, false_or, not_true_eq_false, not_false_eq_true, Option.map_some, J_ltT, J_ltF, J_leT, J_leF, J_eqT, J_eqF, J_ntT, J_ntF, E_Room_needLaid hW, H.get0, H.get, E_She_sheetCount hW, r1]
theorem p_leafCount (hW : xFix V W) (H : HP N h S T) : W m_She_leafCount (0, [some (.ref (N + 59))], []) h = some (.inl (some (jI (S 59 3))), h) := by
  simp (disch := omega) only [↓reduceIte, S0, S1, J_lt, J_le, J_eq, J_ldI, J_ldI3, J_ldB, J_ldL, J_ldR, J_stI, J_stB, J_stL, J_dv, j_gne, C0, CM, CP, CR, CJ, CS, CL, and_self, and_true, true_and, and_false, false_and, or_true, true_or, or_false, false_or, not_true_eq_false, not_false_eq_true, Option.map_some, E_She_leafCount hW, H.get]
theorem p_sheetCount (hW : xFix V W) (H : HP N h S T) : W m_She_sheetCount (0, [some (.ref (N + 59))], []) h = some (.inl (some (jI (S 59 2))), h) := by
  simp (disch := omega) only [↓reduceIte, S0, S1, J_lt, J_le, J_eq, J_ldI, J_ldI3, J_ldB, J_ldL, J_ldR, J_stI, J_stB, J_stL, J_dv, j_gne, C0, CM, CP, CR, CJ, CS, CL, and_self, and_true, true_and, and_false, false_and, or_true, true_or, or_false, false_or, not_true_eq_false, not_false_eq_true, Option.map_some, E_She_sheetCount hW, H.get]
theorem p_slot (hW : xFix V W) (H : HP N h S T) (R : SR S) {sh sd s w : Int} (h1 : j32 sh) (h2 : j32 sd) (h3 : j32 s) (h4 : j32 w) :
    W m_Room_slot (0, [some (.ref N), some (.int (Int32.ofInt sh)), some (.int (Int32.ofInt sd)), some (.int (Int32.ofInt s)), some (.int (Int32.ofInt w))], []) h = if S 78 21 = 0 then jX 10 h else if (0 ≤ sh ∧ sh < S 78 21) ∧ (0 ≤ sd ∧ sd < 2) ∧ (0 ≤ s ∧ s < S 78 23) ∧ (0 ≤ w ∧ w < 3) then some (.inl (some (jI (slotV S sh sd s w))), h) else jX 8 h := by
  have nl := p_needLaid hW H R
  obtain ⟨r1, r2, r3, r4⟩ := R
  by_cases e : S 78 21 = 0
  · rw [if_pos e] at nl ⊢
    simp (disch := omega) only [↓reduceIte, S0, S1, J_lt, J_le, J_eq, J_ldI, J_ldI3, J_ldB, J_ldL, J_ldR, J_stI, J_stB, J_stL, J_dv, j_gne, C0, CM, CP, CR, CJ, CS, CL, and_self, and_true, true_and, and_false, false_and, or_true, true_or, or_false, false_or, not_true_eq_false, not_false_eq_true, Option.map_some, E_Room_slot hW, H.get0, nl, jX_ret X_Room_slot]
  · rw [if_neg e] at nl ⊢
    obtain ⟨b1, b2, b3, b4, b5⟩ := r4 e
    by_cases c1 : 0 ≤ sh ∧ sh < S 78 21
    · by_cases c2 : 0 ≤ sd ∧ sd < 2
      · by_cases c3 : 0 ≤ s ∧ s < S 78 23
        · by_cases c4 : 0 ≤ w ∧ w < 3
          · rw [if_pos ⟨c1, c2, c3, c4⟩]
            obtain ⟨⟨z1, z2, z3⟩, y1, y2, y3⟩ := b4 s.toNat (by omega)
            have hi : s.toNat < 16 := by omega
            have lv0 : W m_Leaf_leavesAbove (0, [some (.ref (N + (61 + s.toNat)))], []) h = some (.inl (some (jI (S 100 s.toNat))), h) := by simp (disch := omega) only [↓reduceIte, S0, S1, J_lt, J_le, J_eq, J_ldI, J_ldI3, J_ldB, J_ldL, J_ldR, J_stI, J_stB, J_stL, J_dv, j_gne, C0, CM, CP, CR, CJ, CS, CL, and_self, and_true, true_and, and_false, false_and, or_true, true_or, or_false, false_or, not_true_eq_false, not_false_eq_true, Option.map_some, E_Leaf_leavesAbove hW, H.get, z1]
            have lv1 : W m_Leaf_sideUp (0, [some (.ref (N + (61 + s.toNat)))], []) h = some (.inl (some (jI (S 96 s.toNat))), h) := by simp (disch := omega) only [↓reduceIte, S0, S1, J_lt, J_le, J_eq, J_ldI, J_ldI3, J_ldB, J_ldL, J_ldR, J_stI, J_stB, J_stL, J_dv, j_gne, C0, CM, CP, CR, CJ, CS, CL, and_self, and_true, true_and, and_false, false_and, or_true, true_or, or_false, false_or, not_true_eq_false, not_false_eq_true, Option.map_some, E_Leaf_sideUp hW, H.get, z2]
            have lv2 : W m_Leaf_turnAtEnd (0, [some (.ref (N + (61 + s.toNat)))], []) h = some (.inl (some (jI (S 97 s.toNat))), h) := by simp (disch := omega) only [↓reduceIte, S0, S1, J_lt, J_le, J_eq, J_ldI, J_ldI3, J_ldB, J_ldL, J_ldR, J_stI, J_stB, J_stL, J_dv, j_gne, C0, CM, CP, CR, CJ, CS, CL, and_self, and_true, true_and, and_false, false_and, or_true, true_or, or_false, false_or, not_true_eq_false, not_false_eq_true, Option.map_some, E_Leaf_turnAtEnd hW, H.get, z3]
            unfold slotV
            by_cases w0 : w = 0
            · by_cases w1 : sd = S 96 s.toNat
              · simp (disch := omega) only [↓reduceIte, S0, S1, J_lt, J_le, J_eq, J_ldI, J_ldI3, J_ldB, J_ldL, J_ldR, J_stI, J_stB, J_stL, J_dv, j_gne, C0, CM, CP, CR, CJ, CS, CL, and_self, and_true, true_and, and_false, false_and, or_true, true_or, or_false, false_or, not_true_eq_false, not_false_eq_true, Option.map_some, J_ltT, J_ltF, J_leT, J_leF, J_eqT, J_eqF, J_ntT, J_ntF, E_Room_slot hW, H.get0, H.get, nl, p_needIndex hW, p_sheetCount hW H, p_leafCount hW H, r1, r2, E_She_pageOn hW, lv0, lv1]
              · simp (disch := omega) only [↓reduceIte, S0, S1, J_lt, J_le, J_eq, J_ldI, J_ldI3, J_ldB, J_ldL, J_ldR, J_stI, J_stB, J_stL, J_dv, j_gne, C0, CM, CP, CR, CJ, CS, CL, and_self, and_true, true_and, and_false, false_and, or_true, true_or, or_false, false_or, not_true_eq_false, not_false_eq_true, Option.map_some, J_ltT, J_ltF, J_leT, J_leF, J_eqT, J_eqF, J_ntT, J_ntF, E_Room_slot hW, H.get0, H.get, nl, p_needIndex hW, p_sheetCount hW H, p_leafCount hW H, r1, r2, E_She_pageOn hW, lv0, lv1]
            · by_cases w1 : w = 1
              · simp (disch := omega) only [↓reduceIte, S0, S1, J_lt, J_le, J_eq, J_ldI, J_ldI3, J_ldB, J_ldL, J_ldR, J_stI, J_stB, J_stL, J_dv, j_gne, C0, CM, CP, CR, CJ, CS, CL, and_self, and_true, true_and, and_false, false_and, or_true, true_or, or_false, false_or, not_true_eq_false, not_false_eq_true, Option.map_some, J_ltT, J_ltF, J_leT, J_leF, J_eqT, J_eqF, J_ntT, J_ntF, E_Room_slot hW, H.get0, H.get, nl, p_needIndex hW, p_sheetCount hW H, p_leafCount hW H, r1, r2, E_She_turnOf hW, lv2]
              · by_cases w2 : S 78 23 = 2
                · simp (disch := omega) only [↓reduceIte, S0, S1, J_lt, J_le, J_eq, J_ldI, J_ldI3, J_ldB, J_ldL, J_ldR, J_stI, J_stB, J_stL, J_dv, j_gne, C0, CM, CP, CR, CJ, CS, CL, and_self, and_true, true_and, and_false, false_and, or_true, true_or, or_false, false_or, not_true_eq_false, not_false_eq_true, Option.map_some, J_ltT, J_ltF, J_leT, J_leF, J_eqT, J_eqF, J_ntT, J_ntF, E_Room_slot hW, H.get0, H.get, nl, p_needIndex hW, p_sheetCount hW H, p_leafCount hW H, r1, r2, E_She_moveOf hW, J_div]
                · have hmn : 0 ≤ mn (S 100 s.toNat) (S 78 23 - 1 - S 100 s.toNat) ∧ mn (S 100 s.toNat) (S 78 23 - 1 - S 100 s.toNat) ≤ 16 := by unfold mn; split <;> omega
                  have nn : 0 ≤ S 78 24 * mn (S 100 s.toNat) (S 78 23 - 1 - S 100 s.toNat) ∧ S 78 24 * mn (S 100 s.toNat) (S 78 23 - 1 - S 100 s.toNat) ≤ 1000 * 16 := ⟨Int.mul_nonneg b3.1 hmn.1, Int.mul_le_mul b3.2 hmn.2 hmn.1 (by omega)⟩
                  simp (disch := omega) only [↓reduceIte, S0, S1, J_lt, J_le, J_eq, J_ldI, J_ldI3, J_ldB, J_ldL, J_ldR, J_stI, J_stB, J_stL, J_dv, j_gne, C0, CM, CP, CR, CJ, CS, CL, and_self, and_true, true_and, and_false, false_and, or_true, true_or, or_false, false_or, not_true_eq_false, not_false_eq_true, Option.map_some, J_ltT, J_ltF, J_leT, J_leF, J_eqT, J_eqF, J_ntT, J_ntF, E_Room_slot hW, H.get0, H.get, nl, p_needIndex hW, p_sheetCount hW H, p_leafCount hW H, r1, r2, r3, E_She_moveOf hW, J_div, lv0, p_min hW]
          · rw [if_neg (fun q => c4 q.2.2.2)]
            simp (disch := omega) only [↓reduceIte, S0, S1, J_lt, J_le, J_eq, J_ldI, J_ldI3, J_ldB, J_ldL, J_ldR, J_stI, J_stB, J_stL, J_dv, j_gne, C0, CM, CP, CR, CJ, CS, CL, and_self, and_true, true_and, and_false, false_and, or_true, true_or, or_false, false_or, not_true_eq_false, not_false_eq_true, Option.map_some, J_ltT, J_ltF, J_leT, J_leF, J_eqT, J_eqF, J_ntT, J_ntF, E_Room_slot hW, H.get0, H.get, nl, p_needIndex hW, p_sheetCount hW H, p_leafCount hW H, r1, r2, c4, jX_ret X_Room_slot]
        · rw [if_neg (fun q => c3 q.2.2.1)]
          simp (disch := omega) only [↓reduceIte, S0, S1, J_lt, J_le, J_eq, J_ldI, J_ldI3, J_ldB, J_ldL, J_ldR, J_stI, J_stB, J_stL, J_dv, j_gne, C0, CM, CP, CR, CJ, CS, CL, and_self, and_true, true_and, and_false, false_and, or_true, true_or, or_false, false_or, not_true_eq_false, not_false_eq_true, Option.map_some, J_ltT, J_ltF, J_leT, J_leF, J_eqT, J_eqF, J_ntT, J_ntF, E_Room_slot hW, H.get0, H.get, nl, p_needIndex hW, p_sheetCount hW H, p_leafCount hW H, r1, r2, c3, jX_ret X_Room_slot]
      · rw [if_neg (fun q => c2 q.2.1)]
        simp (disch := omega) only [↓reduceIte, S0, S1, J_lt, J_le, J_eq, J_ldI, J_ldI3, J_ldB, J_ldL, J_ldR, J_stI, J_stB, J_stL, J_dv, j_gne, C0, CM, CP, CR, CJ, CS, CL, and_self, and_true, true_and, and_false, false_and, or_true, true_or, or_false, false_or, not_true_eq_false, not_false_eq_true, Option.map_some, J_ltT, J_ltF, J_leT, J_leF, J_eqT, J_eqF, J_ntT, J_ntF, E_Room_slot hW, H.get0, H.get, nl, p_needIndex hW, p_sheetCount hW H, p_leafCount hW H, r1, r2, c2, jX_ret X_Room_slot]
    · rw [if_neg (fun q => c1 q.1)]
      simp (disch := omega) only [↓reduceIte, S0, S1, J_lt, J_le, J_eq, J_ldI, J_ldI3, J_ldB, J_ldL, J_ldR, J_stI, J_stB, J_stL, J_dv, j_gne, C0, CM, CP, CR, CJ, CS, CL, and_self, and_true, true_and, and_false, false_and, or_true, true_or, or_false, false_or, not_true_eq_false, not_false_eq_true, Option.map_some, J_ltT, J_ltF, J_leT, J_leF, J_eqT, J_eqF, J_ntT, J_ntF, E_Room_slot hW, H.get0, H.get, nl, p_needIndex hW, p_sheetCount hW H, p_leafCount hW H, r1, r2, c1, jX_ret X_Room_slot]
theorem p_read (hW : xFix V W) (H : HP N h S T) (R : SR S) {k w : Int} (h1 : j32 k) (h2 : j32 w) :
    W m_Room_read (0, [some (.ref N), some (.int (Int32.ofInt k)), some (.int (Int32.ofInt w))], []) h = if S 78 21 = 0 then jX 10 h else if (0 ≤ k ∧ k < 2 * S 78 23) ∧ (0 ≤ w ∧ w < 2) then some (.inl (some (jI (readV S k w))), h) else jX 8 h := by
  have nl := p_needLaid hW H R
  obtain ⟨r1, r2, r3, r4⟩ := R
  by_cases e : S 78 21 = 0
  · rw [if_pos e] at nl ⊢
    simp (disch := omega) only [↓reduceIte, S0, S1, J_lt, J_le, J_eq, J_ldI, J_ldI3, J_ldB, J_ldL, J_ldR, J_stI, J_stB, J_stL, J_dv, j_gne, C0, CM, CP, CR, CJ, CS, CL, and_self, and_true, true_and, and_false, false_and, or_true, true_or, or_false, false_or, not_true_eq_false, not_false_eq_true, Option.map_some, E_Room_read hW, H.get0, nl, jX_ret X_Room_read]
  · rw [if_neg e] at nl ⊢
    obtain ⟨b1, b2, b3, b4, b5⟩ := r4 e
    by_cases c1 : 0 ≤ k ∧ k < 2 * S 78 23
    · by_cases c2 : 0 ≤ w ∧ w < 2
      · rw [if_pos ⟨c1, c2⟩]
        obtain ⟨j1, j2, j3⟩ := b5 (k / 2).toNat (by omega)
        have sr : W m_She_slotRead (0, [some (.ref (N + 59)), some (.int (Int32.ofInt k))], []) h = some (.inl (some (jI (S 95 (k / 2).toNat))), h) := by simp (disch := omega) only [↓reduceIte, S0, S1, J_lt, J_le, J_eq, J_ldI, J_ldI3, J_ldB, J_ldL, J_ldR, J_stI, J_stB, J_stL, J_dv, j_gne, C0, CM, CP, CR, CJ, CS, CL, and_self, and_true, true_and, and_false, false_and, or_true, true_or, or_false, false_or, not_true_eq_false, not_false_eq_true, Option.map_some, J_ltT, J_ltF, J_leT, J_leF, J_eqT, J_eqF, J_ntT, J_ntF, E_She_slotRead hW, H.get, J_div, j1]
        unfold readV
        by_cases w0 : w = 0
        · simp (disch := omega) only [↓reduceIte, S0, S1, J_lt, J_le, J_eq, J_ldI, J_ldI3, J_ldB, J_ldL, J_ldR, J_stI, J_stB, J_stL, J_dv, j_gne, C0, CM, CP, CR, CJ, CS, CL, and_self, and_true, true_and, and_false, false_and, or_true, true_or, or_false, false_or, not_true_eq_false, not_false_eq_true, Option.map_some, J_ltT, J_ltF, J_leT, J_leF, J_eqT, J_eqF, J_ntT, J_ntF, E_Room_read hW, H.get0, H.get, nl, p_needIndex hW, p_leafCount hW H, r2, sr]
        · obtain ⟨⟨z1, z2, z3⟩, y1, y2, y3⟩ := b4 (S 95 (k / 2).toNat).toNat (by omega)
          have hi : (S 95 (k / 2).toNat).toNat < 16 := by omega
          have lv1 : W m_Leaf_sideUp (0, [some (.ref (N + (61 + (S 95 (k / 2).toNat).toNat)))], []) h = some (.inl (some (jI (S 96 (S 95 (k / 2).toNat).toNat))), h) := by simp (disch := omega) only [↓reduceIte, S0, S1, J_lt, J_le, J_eq, J_ldI, J_ldI3, J_ldB, J_ldL, J_ldR, J_stI, J_stB, J_stL, J_dv, j_gne, C0, CM, CP, CR, CJ, CS, CL, and_self, and_true, true_and, and_false, false_and, or_true, true_or, or_false, false_or, not_true_eq_false, not_false_eq_true, Option.map_some, E_Leaf_sideUp hW, H.get, z2]
          by_cases k2 : k % 2 = 0
          · simp (disch := omega) only [↓reduceIte, S0, S1, J_lt, J_le, J_eq, J_ldI, J_ldI3, J_ldB, J_ldL, J_ldR, J_stI, J_stB, J_stL, J_dv, j_gne, C0, CM, CP, CR, CJ, CS, CL, and_self, and_true, true_and, and_false, false_and, or_true, true_or, or_false, false_or, not_true_eq_false, not_false_eq_true, Option.map_some, J_ltT, J_ltF, J_leT, J_leF, J_eqT, J_eqF, J_ntT, J_ntF, E_Room_read hW, H.get0, H.get, nl, p_needIndex hW, p_leafCount hW H, r2, E_She_sideRead hW, sr, lv1, J_div]
          · simp (disch := omega) only [↓reduceIte, S0, S1, J_lt, J_le, J_eq, J_ldI, J_ldI3, J_ldB, J_ldL, J_ldR, J_stI, J_stB, J_stL, J_dv, j_gne, C0, CM, CP, CR, CJ, CS, CL, and_self, and_true, true_and, and_false, false_and, or_true, true_or, or_false, false_or, not_true_eq_false, not_false_eq_true, Option.map_some, J_ltT, J_ltF, J_leT, J_leF, J_eqT, J_eqF, J_ntT, J_ntF, E_Room_read hW, H.get0, H.get, nl, p_needIndex hW, p_leafCount hW H, r2, E_She_sideRead hW, sr, lv1, J_div]
      · rw [if_neg (fun q => c2 q.2)]
        simp (disch := omega) only [↓reduceIte, S0, S1, J_lt, J_le, J_eq, J_ldI, J_ldI3, J_ldB, J_ldL, J_ldR, J_stI, J_stB, J_stL, J_dv, j_gne, C0, CM, CP, CR, CJ, CS, CL, and_self, and_true, true_and, and_false, false_and, or_true, true_or, or_false, false_or, not_true_eq_false, not_false_eq_true, Option.map_some, J_ltT, J_ltF, J_leT, J_leF, J_eqT, J_eqF, J_ntT, J_ntF, E_Room_read hW, H.get0, H.get, nl, p_needIndex hW, p_leafCount hW H, r2, c2, jX_ret X_Room_read]
    · rw [if_neg (fun q => c1 q.1)]
      simp (disch := omega) only [↓reduceIte, S0, S1, J_lt, J_le, J_eq, J_ldI, J_ldI3, J_ldB, J_ldL, J_ldR, J_stI, J_stB, J_stL, J_dv, j_gne, C0, CM, CP, CR, CJ, CS, CL, and_self, and_true, true_and, and_false, false_and, or_true, true_or, or_false, false_or, not_true_eq_false, not_false_eq_true, Option.map_some, J_ltT, J_ltF, J_leT, J_leF, J_eqT, J_eqF, J_ntT, J_ntF, E_Room_read hW, H.get0, H.get, nl, p_needIndex hW, p_leafCount hW H, r2, c1, jX_ret X_Room_read]
theorem q_slot (hW : xFix V W) (H : HP N h S T) (R : SR S) {sh sd s w : Int} (h1 : j32 sh) (h2 : j32 sd) (h3 : j32 s) (h4 : j32 w) :
    W m_Mod_slot (0, [some (.ref (N + 78)), some (.int (Int32.ofInt sh)), some (.int (Int32.ofInt sd)), some (.int (Int32.ofInt s)), some (.int (Int32.ofInt w)), none, none], []) h = if S 78 21 = 0 then some (.inl (some (jI 0)), hth N h S T 1) else if (0 ≤ sh ∧ sh < S 78 21) ∧ (0 ≤ sd ∧ sd < 2) ∧ (0 ≤ s ∧ s < S 78 23) ∧ (0 ≤ w ∧ w < 3) then some (.inl (some (jI (slotV S sh sd s w))), hth N h S T 0) else some (.inl (some (jI 0)), hth N h S T 2) := by
  obtain ⟨r1, r2, r3, r4⟩ := R
  by_cases e : S 78 21 = 0
  · rw [if_pos e]
    simp (disch := omega) only [↓reduceIte, S0, S1, J_lt, J_le, J_eq, J_ldI, J_ldI3, J_ldB, J_ldL, J_ldR, J_stI, J_stB, J_stL, J_dv, j_gne, C0, CM, CP, CR, CJ, CS, CL, and_self, and_true, true_and, and_false, false_and, or_true, true_or, or_false, false_or, not_true_eq_false, not_false_eq_true, Option.map_some, J_ltT, J_ltF, J_leT, J_leF, J_eqT, J_eqF, J_ntT, J_ntF, E_Mod_slot hW, H.get, jup_ne, e, E_Mod_fail hW, j_ss, jup_jup]
  · rw [if_neg e]
    obtain ⟨b1, b2, b3, b4, b5⟩ := r4 e
    by_cases c : (0 ≤ sh ∧ sh < S 78 21) ∧ (0 ≤ sd ∧ sd < 2) ∧ (0 ≤ s ∧ s < S 78 23) ∧ (0 ≤ w ∧ w < 3)
    · rw [if_pos c]
      obtain ⟨⟨z1, z2, z3⟩, y1, y2, y3⟩ := b4 s.toNat (by omega)
      unfold slotV
      have ea : 2 * S 78 23 * sh = sh * 2 * S 78 23 := by rw [Int.mul_comm (2 * S 78 23) sh, Int.mul_assoc]
      by_cases w0 : w = 0
      · by_cases w1 : sd = S 96 s.toNat
        · simp (disch := omega) only [↓reduceIte, S0, S1, J_lt, J_le, J_eq, J_ldI, J_ldI3, J_ldB, J_ldL, J_ldR, J_stI, J_stB, J_stL, J_dv, j_gne, C0, CM, CP, CR, CJ, CS, CL, and_self, and_true, true_and, and_false, false_and, or_true, true_or, or_false, false_or, not_true_eq_false, not_false_eq_true, Option.map_some, J_ltT, J_ltF, J_leT, J_leF, J_eqT, J_eqF, J_ntT, J_ntF, E_Mod_slot hW, E_Mod_slot_p1 hW, H.get, jup_ne, q_within hW, ea, Int.add_assoc]
        · simp (disch := omega) only [↓reduceIte, S0, S1, J_lt, J_le, J_eq, J_ldI, J_ldI3, J_ldB, J_ldL, J_ldR, J_stI, J_stB, J_stL, J_dv, j_gne, C0, CM, CP, CR, CJ, CS, CL, and_self, and_true, true_and, and_false, false_and, or_true, true_or, or_false, false_or, not_true_eq_false, not_false_eq_true, Option.map_some, J_ltT, J_ltF, J_leT, J_leF, J_eqT, J_eqF, J_ntT, J_ntF, E_Mod_slot hW, E_Mod_slot_p1 hW, H.get, jup_ne, q_within hW, ea, Int.add_assoc]
      · by_cases w1 : w = 1
        · simp (disch := omega) only [↓reduceIte, S0, S1, J_lt, J_le, J_eq, J_ldI, J_ldI3, J_ldB, J_ldL, J_ldR, J_stI, J_stB, J_stL, J_dv, j_gne, C0, CM, CP, CR, CJ, CS, CL, and_self, and_true, true_and, and_false, false_and, or_true, true_or, or_false, false_or, not_true_eq_false, not_false_eq_true, Option.map_some, J_ltT, J_ltF, J_leT, J_leF, J_eqT, J_eqF, J_ntT, J_ntF, E_Mod_slot hW, E_Mod_slot_p1 hW, H.get, jup_ne, q_within hW]
        · by_cases w2 : S 78 23 = 2
          · by_cases w3 : S 100 s.toNat < S 78 23 - 1 - S 100 s.toNat
            · simp (disch := omega) only [↓reduceIte, S0, S1, J_lt, J_le, J_eq, J_ldI, J_ldI3, J_ldB, J_ldL, J_ldR, J_stI, J_stB, J_stL, J_dv, j_gne, C0, CM, CP, CR, CJ, CS, CL, and_self, and_true, true_and, and_false, false_and, or_true, true_or, or_false, false_or, not_true_eq_false, not_false_eq_true, Option.map_some, J_ltT, J_ltF, J_leT, J_leF, J_eqT, J_eqF, J_ntT, J_ntF, E_Mod_slot hW, E_Mod_slot_p1 hW, H.get, jup_ne, q_within hW]
            · simp (disch := omega) only [↓reduceIte, S0, S1, J_lt, J_le, J_eq, J_ldI, J_ldI3, J_ldB, J_ldL, J_ldR, J_stI, J_stB, J_stL, J_dv, j_gne, C0, CM, CP, CR, CJ, CS, CL, and_self, and_true, true_and, and_false, false_and, or_true, true_or, or_false, false_or, not_true_eq_false, not_false_eq_true, Option.map_some, J_ltT, J_ltF, J_leT, J_leF, J_eqT, J_eqF, J_ntT, J_ntF, E_Mod_slot hW, E_Mod_slot_p1 hW, H.get, jup_ne, q_within hW]
          · have hmn : 0 ≤ mn (S 100 s.toNat) (S 78 23 - 1 - S 100 s.toNat) ∧ mn (S 100 s.toNat) (S 78 23 - 1 - S 100 s.toNat) ≤ 16 := by unfold mn; split <;> omega
            have nn : 0 ≤ S 78 24 * mn (S 100 s.toNat) (S 78 23 - 1 - S 100 s.toNat) ∧ S 78 24 * mn (S 100 s.toNat) (S 78 23 - 1 - S 100 s.toNat) ≤ 1000 * 16 := ⟨Int.mul_nonneg b3.1 hmn.1, Int.mul_le_mul b3.2 hmn.2 hmn.1 (by omega)⟩
            by_cases w3 : S 100 s.toNat < S 78 23 - 1 - S 100 s.toNat
            · have em : mn (S 100 s.toNat) (S 78 23 - 1 - S 100 s.toNat) = S 100 s.toNat := by unfold mn; rw [if_pos (by omega)]
              rw [em] at nn ⊢
              simp (disch := omega) only [↓reduceIte, S0, S1, J_lt, J_le, J_eq, J_ldI, J_ldI3, J_ldB, J_ldL, J_ldR, J_stI, J_stB, J_stL, J_dv, j_gne, C0, CM, CP, CR, CJ, CS, CL, and_self, and_true, true_and, and_false, false_and, or_true, true_or, or_false, false_or, not_true_eq_false, not_false_eq_true, Option.map_some, J_ltT, J_ltF, J_leT, J_leF, J_eqT, J_eqF, J_ntT, J_ntF, E_Mod_slot hW, E_Mod_slot_p1 hW, H.get, jup_ne, q_within hW, J_div]
            · have em : mn (S 100 s.toNat) (S 78 23 - 1 - S 100 s.toNat) = S 78 23 - 1 - S 100 s.toNat := by unfold mn; split <;> omega
              rw [em] at nn ⊢
              simp (disch := omega) only [↓reduceIte, S0, S1, J_lt, J_le, J_eq, J_ldI, J_ldI3, J_ldB, J_ldL, J_ldR, J_stI, J_stB, J_stL, J_dv, j_gne, C0, CM, CP, CR, CJ, CS, CL, and_self, and_true, true_and, and_false, false_and, or_true, true_or, or_false, false_or, not_true_eq_false, not_false_eq_true, Option.map_some, J_ltT, J_ltF, J_leT, J_leF, J_eqT, J_eqF, J_ntT, J_ntF, E_Mod_slot hW, E_Mod_slot_p1 hW, H.get, jup_ne, q_within hW, J_div]
    · rw [if_neg c]
      by_cases c1 : 0 ≤ sh ∧ sh ≤ S 78 21 - 1
      · by_cases c2 : 0 ≤ sd ∧ sd ≤ 1
        · by_cases c3 : 0 ≤ s ∧ s ≤ S 78 23 - 1
          · have c4 : ¬ (0 ≤ w ∧ w ≤ 2) := by omega
            simp (disch := omega) only [↓reduceIte, S0, S1, J_lt, J_le, J_eq, J_ldI, J_ldI3, J_ldB, J_ldL, J_ldR, J_stI, J_stB, J_stL, J_dv, j_gne, C0, CM, CP, CR, CJ, CS, CL, and_self, and_true, true_and, and_false, false_and, or_true, true_or, or_false, false_or, not_true_eq_false, not_false_eq_true, Option.map_some, J_ltT, J_ltF, J_leT, J_leF, J_eqT, J_eqF, J_ntT, J_ntF, E_Mod_slot hW, H.get, jup_ne, q_within hW, c1, c2, c3, c4, E_Mod_fail hW, j_ss, jup_jup]
          · simp (disch := omega) only [↓reduceIte, S0, S1, J_lt, J_le, J_eq, J_ldI, J_ldI3, J_ldB, J_ldL, J_ldR, J_stI, J_stB, J_stL, J_dv, j_gne, C0, CM, CP, CR, CJ, CS, CL, and_self, and_true, true_and, and_false, false_and, or_true, true_or, or_false, false_or, not_true_eq_false, not_false_eq_true, Option.map_some, J_ltT, J_ltF, J_leT, J_leF, J_eqT, J_eqF, J_ntT, J_ntF, E_Mod_slot hW, H.get, jup_ne, q_within hW, c1, c2, c3, E_Mod_fail hW, j_ss, jup_jup]
        · simp (disch := omega) only [↓reduceIte, S0, S1, J_lt, J_le, J_eq, J_ldI, J_ldI3, J_ldB, J_ldL, J_ldR, J_stI, J_stB, J_stL, J_dv, j_gne, C0, CM, CP, CR, CJ, CS, CL, and_self, and_true, true_and, and_false, false_and, or_true, true_or, or_false, false_or, not_true_eq_false, not_false_eq_true, Option.map_some, J_ltT, J_ltF, J_leT, J_leF, J_eqT, J_eqF, J_ntT, J_ntF, E_Mod_slot hW, H.get, jup_ne, q_within hW, c1, c2, E_Mod_fail hW, j_ss, jup_jup]
      · simp (disch := omega) only [↓reduceIte, S0, S1, J_lt, J_le, J_eq, J_ldI, J_ldI3, J_ldB, J_ldL, J_ldR, J_stI, J_stB, J_stL, J_dv, j_gne, C0, CM, CP, CR, CJ, CS, CL, and_self, and_true, true_and, and_false, false_and, or_true, true_or, or_false, false_or, not_true_eq_false, not_false_eq_true, Option.map_some, J_ltT, J_ltF, J_leT, J_leF, J_eqT, J_eqF, J_ntT, J_ntF, E_Mod_slot hW, H.get, jup_ne, q_within hW, c1, E_Mod_fail hW, j_ss, jup_jup]
theorem q_read (hW : xFix V W) (H : HP N h S T) (R : SR S) {k w : Int} (h1 : j32 k) (h2 : j32 w) :
    W m_Mod_read (0, [some (.ref (N + 78)), some (.int (Int32.ofInt k)), some (.int (Int32.ofInt w)), none], []) h = if S 78 21 = 0 then some (.inl (some (jI 0)), hth N h S T 1) else if (0 ≤ k ∧ k < 2 * S 78 23) ∧ (0 ≤ w ∧ w < 2) then some (.inl (some (jI (readV S k w))), hth N h S T 0) else some (.inl (some (jI 0)), hth N h S T 2) := by
  obtain ⟨r1, r2, r3, r4⟩ := R
  by_cases e : S 78 21 = 0
  · rw [if_pos e]
    simp (disch := omega) only [↓reduceIte, S0, S1, J_lt, J_le, J_eq, J_ldI, J_ldI3, J_ldB, J_ldL, J_ldR, J_stI, J_stB, J_stL, J_dv, j_gne, C0, CM, CP, CR, CJ, CS, CL, and_self, and_true, true_and, and_false, false_and, or_true, true_or, or_false, false_or, not_true_eq_false, not_false_eq_true, Option.map_some, J_ltT, J_ltF, J_leT, J_leF, J_eqT, J_eqF, J_ntT, J_ntF, E_Mod_read hW, H.get, jup_ne, e, E_Mod_fail hW, j_ss, jup_jup]
  · rw [if_neg e]
    obtain ⟨b1, b2, b3, b4, b5⟩ := r4 e
    by_cases c : (0 ≤ k ∧ k < 2 * S 78 23) ∧ (0 ≤ w ∧ w < 2)
    · rw [if_pos c]
      obtain ⟨j1, j2, j3⟩ := b5 (k / 2).toNat (by omega)
      unfold readV
      by_cases w0 : w = 0
      · simp (disch := omega) only [↓reduceIte, S0, S1, J_lt, J_le, J_eq, J_ldI, J_ldI3, J_ldB, J_ldL, J_ldR, J_stI, J_stB, J_stL, J_dv, j_gne, C0, CM, CP, CR, CJ, CS, CL, and_self, and_true, true_and, and_false, false_and, or_true, true_or, or_false, false_or, not_true_eq_false, not_false_eq_true, Option.map_some, J_ltT, J_ltF, J_leT, J_leF, J_eqT, J_eqF, J_ntT, J_ntF, E_Mod_read hW, H.get, jup_ne, q_within hW, J_div]
      · obtain ⟨⟨z1, z2, z3⟩, y1, y2, y3⟩ := b4 (S 95 (k / 2).toNat).toNat (by omega)
        by_cases k2 : k % 2 = 0
        · simp (disch := omega) only [↓reduceIte, S0, S1, J_lt, J_le, J_eq, J_ldI, J_ldI3, J_ldB, J_ldL, J_ldR, J_stI, J_stB, J_stL, J_dv, j_gne, C0, CM, CP, CR, CJ, CS, CL, and_self, and_true, true_and, and_false, false_and, or_true, true_or, or_false, false_or, not_true_eq_false, not_false_eq_true, Option.map_some, J_ltT, J_ltF, J_leT, J_leF, J_eqT, J_eqF, J_ntT, J_ntF, E_Mod_read hW, H.get, jup_ne, q_within hW, J_div]
        · simp (disch := omega) only [↓reduceIte, S0, S1, J_lt, J_le, J_eq, J_ldI, J_ldI3, J_ldB, J_ldL, J_ldR, J_stI, J_stB, J_stL, J_dv, j_gne, C0, CM, CP, CR, CJ, CS, CL, and_self, and_true, true_and, and_false, false_and, or_true, true_or, or_false, false_or, not_true_eq_false, not_false_eq_true, Option.map_some, J_ltT, J_ltF, J_leT, J_leF, J_eqT, J_eqF, J_ntT, J_ntF, E_Mod_read hW, H.get, jup_ne, q_within hW, J_div]
    · rw [if_neg c]
      by_cases c1 : 0 ≤ k ∧ k ≤ 2 * S 78 23 - 1
      · have c2 : ¬ (0 ≤ w ∧ w ≤ 1) := by omega
        simp (disch := omega) only [↓reduceIte, S0, S1, J_lt, J_le, J_eq, J_ldI, J_ldI3, J_ldB, J_ldL, J_ldR, J_stI, J_stB, J_stL, J_dv, j_gne, C0, CM, CP, CR, CJ, CS, CL, and_self, and_true, true_and, and_false, false_and, or_true, true_or, or_false, false_or, not_true_eq_false, not_false_eq_true, Option.map_some, J_ltT, J_ltF, J_leT, J_leF, J_eqT, J_eqF, J_ntT, J_ntF, E_Mod_read hW, H.get, jup_ne, q_within hW, c1, c2, E_Mod_fail hW, j_ss, jup_jup]
      · simp (disch := omega) only [↓reduceIte, S0, S1, J_lt, J_le, J_eq, J_ldI, J_ldI3, J_ldB, J_ldL, J_ldR, J_stI, J_stB, J_stL, J_dv, j_gne, C0, CM, CP, CR, CJ, CS, CL, and_self, and_true, true_and, and_false, false_and, or_true, true_or, or_false, false_or, not_true_eq_false, not_false_eq_true, Option.map_some, J_ltT, J_ltF, J_leT, J_leF, J_eqT, J_eqF, J_ntT, J_ntF, E_Mod_read hW, H.get, jup_ne, q_within hW, c1, E_Mod_fail hW, j_ss, jup_jup]
end SRS
