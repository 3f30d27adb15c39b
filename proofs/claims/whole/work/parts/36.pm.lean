section PM
variable {V : Nat → Value} {W : xWt} {N : Nat} {h : xH} {S : Nat → Nat → Int} {T : Nat → Nat → Int64}
theorem HP.th (H : HP N h S T) (c : Int) : HP N (hth N h S T c) (sup S 78 (jup (S 78) 0 c)) T := H.put (by omega) _ rfl
theorem hth_hth (c d : Int) : hth N (hth N h S T d) (sup S 78 (jup (S 78) 0 d)) T c = hth N h S T c := by
  show xset (xset h (N + 78) _) (N + 78) _ = _
  rw [j_ss, sup_same, jup_jup]
theorem q_has (hW : xFix V W) (H : HP N h S T) (hz : S 78 0 = 0) {p ink x y : Int} (hp : j32 p) (hi : j32 ink) (hx : j32 x) (hy : j32 y) (hm : ∀ q, q < 4 → S 81 q = 0 ∨ S 81 q = 1) :
    W m_Mod_has (0, [some (.ref (N + 78)), some (.int (Int32.ofInt p)), some (.int (Int32.ofInt ink)), some (.int (Int32.ofInt x)), some (.int (Int32.ofInt y))], []) h = if ((0 ≤ p ∧ p < 4) ∧ (0 ≤ x ∧ x < 48) ∧ (0 ≤ y ∧ y < 64)) ∧ (0 ≤ ink ∧ ink < 8) then (if S 81 p.toNat = 1 then some (.inl (some (jI 1)), h) else some (.inl (some (jI 0)), hth N h S T 2)) else some (.inl (some (jI 0)), hth N h S T 1) := by
  by_cases c1 : (0 ≤ p ∧ p < 4) ∧ (0 ≤ x ∧ x < 48) ∧ (0 ≤ y ∧ y < 64)
  · by_cases c2 : 0 ≤ ink ∧ ink < 8
    · have hm' := hm p.toNat (by omega)
      rw [if_pos ⟨c1, c2⟩]
      by_cases c3 : S 81 p.toNat = 1
      · rw [if_pos c3]
        simp (disch := omega) only [↓reduceIte, S0, S1, J_lt, J_le, J_eq, J_ldI, J_ldI3, J_ldB, J_ldL, J_ldR, J_stI, J_stB, J_stL, J_dv, j_gne, C0, CM, CP, CR, CJ, CS, CL, and_self, and_true, true_and, and_false, false_and, or_true, true_or, or_false, false_or, not_true_eq_false, not_false_eq_true, Option.map_some, J_ltT, J_ltF, J_leT, J_leF, J_eqT, J_eqF, J_ntT, J_ntF, E_Mod_has hW, q_isCell hW, q_within hW, H.get, c3, hz]
      · rw [if_neg c3]
        simp (disch := omega) only [↓reduceIte, S0, S1, J_lt, J_le, J_eq, J_ldI, J_ldI3, J_ldB, J_ldL, J_ldR, J_stI, J_stB, J_stL, J_dv, j_gne, C0, CM, CP, CR, CJ, CS, CL, and_self, and_true, true_and, and_false, false_and, or_true, true_or, or_false, false_or, not_true_eq_false, not_false_eq_true, Option.map_some, J_ltT, J_ltF, J_leT, J_leF, J_eqT, J_eqF, J_ntT, J_ntF, E_Mod_has hW, q_isCell hW, q_within hW, H.get, jup_same]
    · rw [if_neg (fun q => c2 q.2)]
      simp (disch := omega) only [↓reduceIte, S0, S1, J_lt, J_le, J_eq, J_ldI, J_ldI3, J_ldB, J_ldL, J_ldR, J_stI, J_stB, J_stL, J_dv, j_gne, C0, CM, CP, CR, CJ, CS, CL, and_self, and_true, true_and, and_false, false_and, or_true, true_or, or_false, false_or, not_true_eq_false, not_false_eq_true, Option.map_some, J_ltT, J_ltF, J_leT, J_leF, J_eqT, J_eqF, J_ntT, J_ntF, E_Mod_has hW, q_isCell hW, q_within hW, show ¬ (0 ≤ ink ∧ ink ≤ 7) by omega, H.get, jup_same]
  · rw [if_neg (fun q => c1 q.1)]
    simp (disch := omega) only [↓reduceIte, S0, S1, J_lt, J_le, J_eq, J_ldI, J_ldI3, J_ldB, J_ldL, J_ldR, J_stI, J_stB, J_stL, J_dv, j_gne, C0, CM, CP, CR, CJ, CS, CL, and_self, and_true, true_and, and_false, false_and, or_true, true_or, or_false, false_or, not_true_eq_false, not_false_eq_true, Option.map_some, E_Mod_has hW, q_isCell hW, show ¬ ((0 ≤ p ∧ p ≤ 3) ∧ (0 ≤ x ∧ x ≤ 47) ∧ (0 ≤ y ∧ y ≤ 63)) by omega, H.get, jup_same]
/-- what the model keeps of a page's job -/
def JR (S : Nat → Nat → Int) (p : Nat) : Prop :=
  (∀ j, j < 3072 → S (9 + 4 * p) j = S 83 (3072 * p + j) ∧ 0 ≤ S 83 (3072 * p + j) ∧ S 83 (3072 * p + j) < 64) ∧ (∀ j, j < 3072 → S (10 + 4 * p) j + 1 = S 85 (3072 * p + j) ∧ 0 ≤ S 85 (3072 * p + j) ∧ S 85 (3072 * p + j) ≤ 64) ∧ (∀ j, j < 512 → S (11 + 4 * p) j = S 84 (512 * p + j) ∧ 0 ≤ S 84 (512 * p + j) ∧ S 84 (512 * p + j) ≤ 255)
theorem amt_eq {p : Nat} (hp : p < 4) (J : JR S p) {ink x y : Int} (hi : 0 ≤ ink ∧ ink < 8) (hx : 0 ≤ x ∧ x < 48) (hy : 0 ≤ y ∧ y < 64) :
    amt (S (9 + 4 * p)) (S (10 + 4 * p)) (S (11 + 4 * p)) (y * 48 + x) ink = amtM (S 83) (S 85) (S 84) p ink x y := by
  obtain ⟨j1, j2, j3⟩ := J
  obtain ⟨a1, a2, a3⟩ := j1 (y * 48 + x).toNat (by omega)
  obtain ⟨b1, b2, b3⟩ := j2 (y * 48 + x).toNat (by omega)
  have e : 3072 * p + (y * 48 + x).toNat = (3072 * (p : Int) + 48 * y + x).toNat := by omega
  rw [e] at a1 a2 a3 b1 b2 b3
  obtain ⟨c1, c2, c3⟩ := j3 (S 83 (3072 * (p : Int) + 48 * y + x).toNat * 8 + ink).toNat (by omega)
  have e1 : 512 * p + (S 83 (3072 * (p : Int) + 48 * y + x).toNat * 8 + ink).toNat = (512 * (p : Int) + 8 * S 83 (3072 * (p : Int) + 48 * y + x).toNat + ink).toNat := by omega
  rw [e1] at c1 c2 c3
  unfold amt amtM
  rw [a1, c1]
  by_cases z : S (10 + 4 * p) (y * 48 + x).toNat = -1
  · rw [if_pos z, if_neg (by omega)]
    unfold mx
    rw [if_neg (by omega)]
  · rw [if_neg z, if_pos (by omega)]
    obtain ⟨d1, d2, d3⟩ := j3 (S (10 + 4 * p) (y * 48 + x).toNat * 8 + ink).toNat (by omega)
    have e2 : 512 * p + (S (10 + 4 * p) (y * 48 + x).toNat * 8 + ink).toNat = (512 * (p : Int) + 8 * (S 85 (3072 * (p : Int) + 48 * y + x).toNat - 1) + ink).toNat := by omega
    rw [d1, e2]
theorem mark_eq {p : Nat} (J : JR S p) {x y : Int} (hx : 0 ≤ x ∧ x < 48) (hy : 0 ≤ y ∧ y < 64) :
    mark (S (9 + 4 * p)) (S (10 + 4 * p)) (y * 48 + x) = if S 85 (3072 * (p : Int) + 48 * y + x).toNat = 0 then 0 else 1 + 64 * (S 85 (3072 * (p : Int) + 48 * y + x).toNat - 1) + S 83 (3072 * (p : Int) + 48 * y + x).toNat := by
  obtain ⟨j1, j2, j3⟩ := J
  obtain ⟨a1, a2, a3⟩ := j1 (y * 48 + x).toNat (by omega)
  obtain ⟨b1, b2, b3⟩ := j2 (y * 48 + x).toNat (by omega)
  have e : 3072 * p + (y * 48 + x).toNat = (3072 * (p : Int) + 48 * y + x).toNat := by omega
  rw [e] at a1 a2 a3 b1 b2 b3
  unfold mark
  split <;> split <;> omega
theorem p_plate (hW : xFix V W) (H : HP N h S T) {p ink x y : Int} (hp : j32 p) (hi : j32 ink) (hx : j32 x) (hy : j32 y) (hm : ∀ q, q < 4 → S (8 + 4 * q) 3 = 0 ∨ S (8 + 4 * q) 3 = 1) (hJ : ∀ q, q < 4 → S (8 + 4 * q) 3 = 1 → JR S q) :
    W m_Room_plate (0, [some (.ref N), some (.int (Int32.ofInt p)), some (.int (Int32.ofInt ink)), some (.int (Int32.ofInt x)), some (.int (Int32.ofInt y))], []) h = if ((0 ≤ p ∧ p < 4) ∧ (0 ≤ x ∧ x < 48) ∧ (0 ≤ y ∧ y < 64)) ∧ (0 ≤ ink ∧ ink < 8) then (if S (8 + 4 * p.toNat) 3 = 1 then some (.inl (some (jI (amtM (S 83) (S 85) (S 84) p ink x y))), h) else jX 10 h) else jX 8 h := by
  by_cases c2 : 0 ≤ ink ∧ ink < 8
  · by_cases c1 : (0 ≤ p ∧ p < 4) ∧ (0 ≤ x ∧ x < 48) ∧ (0 ≤ y ∧ y < 64)
    · rw [if_pos ⟨c1, c2⟩]
      by_cases c3 : S (8 + 4 * p.toNat) 3 = 1
      · rw [if_pos c3]
        have J := hJ p.toNat (by omega) c3
        have ep : ((p.toNat : Nat) : Int) = p := by omega
        have e := amt_eq (show p.toNat < 4 by omega) J c2 c1.2.1 c1.2.2
        rw [ep] at e
        obtain ⟨a1, a2, a3⟩ := J.1 (y * 48 + x).toNat (by omega)
        obtain ⟨b1, b2, b3⟩ := J.2.1 (y * 48 + x).toNat (by omega)
        have r := p_amountAt hW H (p := p.toNat) (by omega) (k := y * 48 + x) (ink := ink) (by omega) c2 (by omega) (by omega) (fun j hj => by have := J.2.2 j hj; omega)
        rw [e] at r
        simp (disch := omega) only [↓reduceIte, S0, S1, J_lt, J_le, J_eq, J_ldI, J_ldI3, J_ldB, J_ldL, J_ldR, J_stI, J_stB, J_stL, J_dv, j_gne, C0, CM, CP, CR, CJ, CS, CL, and_self, and_true, true_and, and_false, false_and, or_true, true_or, or_false, false_or, not_true_eq_false, not_false_eq_true, Option.map_some, J_ltT, J_ltF, J_leT, J_leF, J_eqT, J_eqF, J_ntT, J_ntF, E_Room_plate hW, H.get0, p_needIndex hW, p_madeJob hW H hp hx hy hm, c1, c2, c3, p_cellAt hW, H.get, r]
      · rw [if_neg c3]
        simp (disch := omega) only [↓reduceIte, S0, S1, J_lt, J_le, J_eq, J_ldI, J_ldI3, J_ldB, J_ldL, J_ldR, J_stI, J_stB, J_stL, J_dv, j_gne, C0, CM, CP, CR, CJ, CS, CL, and_self, and_true, true_and, and_false, false_and, or_true, true_or, or_false, false_or, not_true_eq_false, not_false_eq_true, Option.map_some, E_Room_plate hW, H.get0, p_needIndex hW, p_madeJob hW H hp hx hy hm, c1, c2, c3, jX_ret X_Room_plate]
    · rw [if_neg (fun q => c1 q.1)]
      simp (disch := omega) only [↓reduceIte, S0, S1, J_lt, J_le, J_eq, J_ldI, J_ldI3, J_ldB, J_ldL, J_ldR, J_stI, J_stB, J_stL, J_dv, j_gne, C0, CM, CP, CR, CJ, CS, CL, and_self, and_true, true_and, and_false, false_and, or_true, true_or, or_false, false_or, not_true_eq_false, not_false_eq_true, Option.map_some, E_Room_plate hW, H.get0, p_needIndex hW, p_madeJob hW H hp hx hy hm, c1, c2, jX_ret X_Room_plate]
  · rw [if_neg (fun q => c2 q.2)]
    simp (disch := omega) only [↓reduceIte, S0, S1, J_lt, J_le, J_eq, J_ldI, J_ldI3, J_ldB, J_ldL, J_ldR, J_stI, J_stB, J_stL, J_dv, j_gne, C0, CM, CP, CR, CJ, CS, CL, and_self, and_true, true_and, and_false, false_and, or_true, true_or, or_false, false_or, not_true_eq_false, not_false_eq_true, Option.map_some, E_Room_plate hW, p_needIndex hW, c2, jX_ret X_Room_plate]
theorem q_plate (hW : xFix V W) (H : HP N h S T) {p ink x y : Int} (hp : j32 p) (hi : j32 ink) (hx : j32 x) (hy : j32 y) (hm : ∀ q, q < 4 → S 81 q = 0 ∨ S 81 q = 1) (hJ : ∀ q, q < 4 → S 81 q = 1 → JR S q) :
    W m_Mod_plate (0, [some (.ref (N + 78)), some (.int (Int32.ofInt p)), some (.int (Int32.ofInt ink)), some (.int (Int32.ofInt x)), some (.int (Int32.ofInt y))], []) h = if ((0 ≤ p ∧ p < 4) ∧ (0 ≤ x ∧ x < 48) ∧ (0 ≤ y ∧ y < 64)) ∧ (0 ≤ ink ∧ ink < 8) then (if S 81 p.toNat = 1 then some (.inl (some (jI (amtM (S 83) (S 85) (S 84) p ink x y))), hth N h S T 0) else some (.inl (some (jI 0)), hth N h S T 2)) else some (.inl (some (jI 0)), hth N h S T 1) := by
  have H1 := H.th 0
  have r0 := q_has hW H1 (by rw [sup_same, jup_same]) hp hi hx hy (by simp (disch := omega) only [sup_ne]; exact hm)
  simp (disch := omega) only [sup_ne, hth_hth] at r0
  by_cases c1 : ((0 ≤ p ∧ p < 4) ∧ (0 ≤ x ∧ x < 48) ∧ (0 ≤ y ∧ y < 64)) ∧ (0 ≤ ink ∧ ink < 8)
  · rw [if_pos c1] at r0 ⊢
    by_cases c3 : S 81 p.toNat = 1
    · rw [if_pos c3] at r0 ⊢
      have J := hJ p.toNat (by omega) c3
      obtain ⟨a1, a2, a3⟩ := J.1 (48 * y + x).toNat (by omega)
      obtain ⟨b1, b2, b3⟩ := J.2.1 (48 * y + x).toNat (by omega)
      rw [show 3072 * p.toNat + (48 * y + x).toNat = (3072 * p + 48 * y + x).toNat by omega] at a1 a2 a3 b1 b2 b3
      have r := q_amountAt hW H1 (p := p) (ink := ink) (x := x) (y := y) c1.1.1 c1.2 c1.1.2.1 c1.1.2.2 (by simp (disch := omega) only [sup_ne]; omega) (by simp (disch := omega) only [sup_ne]; omega) (by simp (disch := omega) only [sup_ne]; exact fun j hj => (J.2.2 j hj).2)
      simp (disch := omega) only [sup_ne] at r
      simp (disch := omega) only [↓reduceIte, S0, S1, J_lt, J_le, J_eq, J_ldI, J_ldI3, J_ldB, J_ldL, J_ldR, J_stI, J_stB, J_stL, J_dv, j_gne, C0, CM, CP, CR, CJ, CS, CL, and_self, and_true, true_and, and_false, false_and, or_true, true_or, or_false, false_or, not_true_eq_false, not_false_eq_true, Option.map_some, E_Mod_plate hW, H.get, r0, r]
    · rw [if_neg c3] at r0 ⊢
      simp (disch := omega) only [↓reduceIte, S0, S1, J_lt, J_le, J_eq, J_ldI, J_ldI3, J_ldB, J_ldL, J_ldR, J_stI, J_stB, J_stL, J_dv, j_gne, C0, CM, CP, CR, CJ, CS, CL, and_self, and_true, true_and, and_false, false_and, or_true, true_or, or_false, false_or, not_true_eq_false, not_false_eq_true, Option.map_some, E_Mod_plate hW, H.get, r0]
  · rw [if_neg c1] at r0 ⊢
    simp (disch := omega) only [↓reduceIte, S0, S1, J_lt, J_le, J_eq, J_ldI, J_ldI3, J_ldB, J_ldL, J_ldR, J_stI, J_stB, J_stL, J_dv, j_gne, C0, CM, CP, CR, CJ, CS, CL, and_self, and_true, true_and, and_false, false_and, or_true, true_or, or_false, false_or, not_true_eq_false, not_false_eq_true, Option.map_some, E_Mod_plate hW, H.get, r0]
end PM
