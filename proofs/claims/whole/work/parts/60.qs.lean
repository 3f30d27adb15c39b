/-! the reference's weights and shy colours -/
def B0 (j : Nat) : Int := if j = 0 then 30 else if j = 1 then 59 else if j = 2 then 11 else if j = 3 then 100 else 50
def eb (g : Int → Bool) : Nat → Int → Bool → Bool
  | 0, _, o => o
  | n + 1, k, o => eb g n (k + 1) (o || g k)
def b2 (b : Bool) : Int := if b then 1 else 0
section QS
variable {V : Nat → Value} {W : xWt} {N : Nat} {T : Nat → Nat → Int64} {h : xH} {S : Nat → Nat → Int}
theorem q_weight (hW : xFix V W) (H : HP N h S T) {p c : Int} (hp : 0 ≤ p ∧ p < 4) (hc : 0 ≤ c ∧ c < 64) : ∀ (n : Nat) (k m : Int), 0 ≤ k → k + n = 8 →
    W m_Mod_weight (5, [some (.ref (N + 78)), some (.int (Int32.ofInt p)), some (.int (Int32.ofInt c)), some (.int (Int32.ofInt m)), some (.int (Int32.ofInt k))], []) h = some (.inl (some (jI (wtN (fun j => S 84 (512 * p.toNat + j)) B0 (c * 8) n k m))), h) := by
  intro n
  induction n with
  | zero =>
    intro k m k0 k1
    rw [L_Mod_weight_5 hW]
    simp (disch := omega) only [↓reduceIte, S0, S1, J_lt, J_le, J_eq, J_ldI, J_ldI3, J_ldB, J_ldL, J_ldR, J_stI, J_stB, J_stL, J_dv, j_gne, C0, CM, CP, CR, CJ, CS, CL, and_self, and_true, true_and, and_false, false_and, or_true, true_or, or_false, false_or, not_true_eq_false, not_false_eq_true, Option.map_some, J_ltT, J_ltF, J_leT, J_leF, J_eqT, J_eqF, J_ntT, J_ntF, E_Mod_weight hW]
    rfl
  | succ n ih =>
    intro k m k0 k1
    have e : (512 * p + 8 * c + k).toNat = 512 * p.toNat + (c * 8 + k).toNat := by omega
    have ih1 := ih (k + 1) (m + S 84 (512 * p.toNat + (c * 8 + k).toNat) * B0 k.toNat) (by omega) (by omega)
    rw [L_Mod_weight_5 hW]
    show _ = some (Sum.inl (some (jI (wtN (fun j => S 84 (512 * p.toNat + j)) B0 (c * 8) n (k + 1) (m + S 84 (512 * p.toNat + (c * 8 + k).toNat) * B0 k.toNat)))), h)
    rw [← ih1]
    have hk : k = 0 ∨ k = 1 ∨ k = 2 ∨ k = 3 ∨ 4 ≤ k := by omega
    rcases hk with rfl | rfl | rfl | rfl | hk
    · rw [show B0 (0 : Int).toNat = 30 from rfl]
      simp (disch := omega) only [↓reduceIte, S0, S1, J_lt, J_le, J_eq, J_ldI, J_ldI3, J_ldB, J_ldL, J_ldR, J_stI, J_stB, J_stL, J_dv, j_gne, C0, CM, CP, CR, CJ, CS, CL, and_self, and_true, true_and, and_false, false_and, or_true, true_or, or_false, false_or, not_true_eq_false, not_false_eq_true, Option.map_some, J_ltT, J_ltF, J_leT, J_leF, J_eqT, J_eqF, J_ntT, J_ntF, E_Mod_weight hW, H.get, q_amount hW H, e]
    · rw [show B0 (1 : Int).toNat = 59 from rfl]
      simp (disch := omega) only [↓reduceIte, S0, S1, J_lt, J_le, J_eq, J_ldI, J_ldI3, J_ldB, J_ldL, J_ldR, J_stI, J_stB, J_stL, J_dv, j_gne, C0, CM, CP, CR, CJ, CS, CL, and_self, and_true, true_and, and_false, false_and, or_true, true_or, or_false, false_or, not_true_eq_false, not_false_eq_true, Option.map_some, J_ltT, J_ltF, J_leT, J_leF, J_eqT, J_eqF, J_ntT, J_ntF, E_Mod_weight hW, H.get, q_amount hW H, e]
    · rw [show B0 (2 : Int).toNat = 11 from rfl]
      simp (disch := omega) only [↓reduceIte, S0, S1, J_lt, J_le, J_eq, J_ldI, J_ldI3, J_ldB, J_ldL, J_ldR, J_stI, J_stB, J_stL, J_dv, j_gne, C0, CM, CP, CR, CJ, CS, CL, and_self, and_true, true_and, and_false, false_and, or_true, true_or, or_false, false_or, not_true_eq_false, not_false_eq_true, Option.map_some, J_ltT, J_ltF, J_leT, J_leF, J_eqT, J_eqF, J_ntT, J_ntF, E_Mod_weight hW, H.get, q_amount hW H, e]
    · rw [show B0 (3 : Int).toNat = 100 from rfl]
      simp (disch := omega) only [↓reduceIte, S0, S1, J_lt, J_le, J_eq, J_ldI, J_ldI3, J_ldB, J_ldL, J_ldR, J_stI, J_stB, J_stL, J_dv, j_gne, C0, CM, CP, CR, CJ, CS, CL, and_self, and_true, true_and, and_false, false_and, or_true, true_or, or_false, false_or, not_true_eq_false, not_false_eq_true, Option.map_some, J_ltT, J_ltF, J_leT, J_leF, J_eqT, J_eqF, J_ntT, J_ntF, E_Mod_weight hW, H.get, q_amount hW H, e]
    · rw [show B0 k.toNat = 50 by unfold B0; rw [if_neg (by omega), if_neg (by omega), if_neg (by omega), if_neg (by omega)]]
      simp (disch := omega) only [↓reduceIte, S0, S1, J_lt, J_le, J_eq, J_ldI, J_ldI3, J_ldB, J_ldL, J_ldR, J_stI, J_stB, J_stL, J_dv, j_gne, C0, CM, CP, CR, CJ, CS, CL, and_self, and_true, true_and, and_false, false_and, or_true, true_or, or_false, false_or, not_true_eq_false, not_false_eq_true, Option.map_some, J_ltT, J_ltF, J_leT, J_leF, J_eqT, J_eqF, J_ntT, J_ntF, E_Mod_weight hW, H.get, q_amount hW H, e]
theorem q_isLighter (hW : xFix V W) (H : HP N h S T) {p : Int} {c d : Nat} (hp : 0 ≤ p ∧ p < 4) (hc : c < 64) (hd : d < 64) (hM : ∀ c : Nat, c < 64 → 0 ≤ wtN (fun j => S 84 (512 * p.toNat + j)) B0 (c * 8) 8 0 0 ∧ wtN (fun j => S 84 (512 * p.toNat + j)) B0 (c * 8) 8 0 0 < 1000000) (dc : Decidable (litP (fun c => wtN (fun j => S 84 (512 * p.toNat + j)) B0 (c * 8) 8 0 0) c d)) :
    W m_Mod_isLighter (0, [some (.ref (N + 78)), some (.int (Int32.ofInt p)), some (.int (Int32.ofInt ((c : Int)))), some (.int (Int32.ofInt ((d : Int)))), none, none], []) h = some (.inl (some (jI (if litP (fun c => wtN (fun j => S 84 (512 * p.toNat + j)) B0 (c * 8) 8 0 0) c d then 1 else 0))), h) := by
  have w1 : W m_Mod_weight (0, [some (.ref (N + 78)), some (.int (Int32.ofInt p)), some (.int (Int32.ofInt ((c : Int)))), none, none], []) h = some (.inl (some (jI (wtN (fun j => S 84 (512 * p.toNat + j)) B0 (c * 8) 8 0 0))), h) := by
    rw [← q_weight hW H hp (c := c) (by omega) 8 0 0 (by omega) (by omega)]
    simp only [E_Mod_weight hW]
  have w2 : W m_Mod_weight (0, [some (.ref (N + 78)), some (.int (Int32.ofInt p)), some (.int (Int32.ofInt ((d : Int)))), none, none], []) h = some (.inl (some (jI (wtN (fun j => S 84 (512 * p.toNat + j)) B0 (d * 8) 8 0 0))), h) := by
    rw [← q_weight hW H hp (c := d) (by omega) 8 0 0 (by omega) (by omega)]
    simp only [E_Mod_weight hW]
  obtain ⟨a1, a2⟩ := hM c hc
  obtain ⟨b1, b2⟩ := hM d hd
  have key : litP (fun c => wtN (fun j => S 84 (512 * p.toNat + j)) B0 (c * 8) 8 0 0) c d ↔ (wtN (fun j => S 84 (512 * p.toNat + j)) B0 (c * 8) 8 0 0 < wtN (fun j => S 84 (512 * p.toNat + j)) B0 (d * 8) 8 0 0 ∨ wtN (fun j => S 84 (512 * p.toNat + j)) B0 (c * 8) 8 0 0 = wtN (fun j => S 84 (512 * p.toNat + j)) B0 (d * 8) 8 0 0 ∧ c < d) := Iff.rfl
  generalize wtN (fun j => S 84 (512 * p.toNat + j)) B0 (c * 8) 8 0 0 = x at *
  generalize wtN (fun j => S 84 (512 * p.toNat + j)) B0 (d * 8) 8 0 0 = y at *
  by_cases z1 : x < y
  · rw [if_pos (key.mpr (Or.inl z1))]
    simp (disch := omega) only [↓reduceIte, S0, S1, J_lt, J_le, J_eq, J_ldI, J_ldI3, J_ldB, J_ldL, J_ldR, J_stI, J_stB, J_stL, J_dv, j_gne, C0, CM, CP, CR, CJ, CS, CL, and_self, and_true, true_and, and_false, false_and, or_true, true_or, or_false, false_or, not_true_eq_false, not_false_eq_true, Option.map_some, J_ltT, J_ltF, J_leT, J_leF, J_eqT, J_eqF, J_ntT, J_ntF, E_Mod_isLighter hW, H.get, w1, w2]
  · by_cases z2 : x = y
    · by_cases z3 : c < d
      · rw [if_pos (key.mpr (Or.inr ⟨z2, z3⟩))]
        simp (disch := omega) only [↓reduceIte, S0, S1, J_lt, J_le, J_eq, J_ldI, J_ldI3, J_ldB, J_ldL, J_ldR, J_stI, J_stB, J_stL, J_dv, j_gne, C0, CM, CP, CR, CJ, CS, CL, and_self, and_true, true_and, and_false, false_and, or_true, true_or, or_false, false_or, not_true_eq_false, not_false_eq_true, Option.map_some, J_ltT, J_ltF, J_leT, J_leF, J_eqT, J_eqF, J_ntT, J_ntF, E_Mod_isLighter hW, H.get, w1, w2, z2]
      · rw [if_neg (fun q => (key.mp q).elim z1 (fun r => z3 r.2))]
        simp (disch := omega) only [↓reduceIte, S0, S1, J_lt, J_le, J_eq, J_ldI, J_ldI3, J_ldB, J_ldL, J_ldR, J_stI, J_stB, J_stL, J_dv, j_gne, C0, CM, CP, CR, CJ, CS, CL, and_self, and_true, true_and, and_false, false_and, or_true, true_or, or_false, false_or, not_true_eq_false, not_false_eq_true, Option.map_some, J_ltT, J_ltF, J_leT, J_leF, J_eqT, J_eqF, J_ntT, J_ntF, E_Mod_isLighter hW, H.get, w1, w2, z2]
    · rw [if_neg (fun q => (key.mp q).elim z1 (fun r => z2 r.1))]
      simp (disch := omega) only [↓reduceIte, S0, S1, J_lt, J_le, J_eq, J_ldI, J_ldI3, J_ldB, J_ldL, J_ldR, J_stI, J_stB, J_stL, J_dv, j_gne, C0, CM, CP, CR, CJ, CS, CL, and_self, and_true, true_and, and_false, false_and, or_true, true_or, or_false, false_or, not_true_eq_false, not_false_eq_true, Option.map_some, J_ltT, J_ltF, J_leT, J_leF, J_eqT, J_eqF, J_ntT, J_ntF, E_Mod_isLighter hW, H.get, w1, w2]
end QS
