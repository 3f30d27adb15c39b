section QT
variable {V : Nat → Value} {W : xWt} {N : Nat} {T : Nat → Nat → Int64} {h : xH} {S : Nat → Nat → Int}
theorem q_shyLoop (hW : xFix V W) (H : HP N h S T) {p c d : Int} (hp : 0 ≤ p ∧ p < 4) (hc : 0 ≤ c ∧ c < 64) (hd : 0 ≤ d ∧ d < 64) (hA : ∀ j, j < 512 → 0 ≤ S 84 (512 * p.toNat + j) ∧ S 84 (512 * p.toNat + j) ≤ 255) : ∀ (n : Nat) (k : Int) (o t b : Bool) (u8 u9 : Option Value), 0 ≤ k → k + n = 8 →
    W m_Mod_isShy (12, [some (.ref (N + 78)), some (.int (Int32.ofInt p)), some (.int (Int32.ofInt c)), some (.int (Int32.ofInt d)), some (.int (Int32.ofInt (b2 o))), some (.int (Int32.ofInt (b2 t))), some (.int (Int32.ofInt (b2 b))), some (.int (Int32.ofInt k)), u8, u9], []) h = some (.inl (some (jI (b2 (eb (fun k => decide (64 ≤ S 84 (512 * p.toNat + (c * 8 + k).toNat))) n k o && eb (fun k => decide (64 ≤ S 84 (512 * p.toNat + (d * 8 + k).toNat))) n k t && !(eb (fun k => decide (64 ≤ S 84 (512 * p.toNat + (c * 8 + k).toNat)) && decide (64 ≤ S 84 (512 * p.toNat + (d * 8 + k).toNat))) n k b))))), h) := by
  intro n
  induction n with
  | zero =>
    intro k o t b u8 u9 k0 k1
    rw [L_Mod_isShy_12 hW]
    show _ = some (Sum.inl (some (jI (b2 (o && t && !b)))), h)
    cases o <;> cases t <;> cases b <;> simp (disch := omega) only [↓reduceIte, S0, S1, J_lt, J_le, J_eq, J_ldI, J_ldI3, J_ldB, J_ldL, J_ldR, J_stI, J_stB, J_stL, J_dv, j_gne, C0, CM, CP, CR, CJ, CS, CL, and_self, and_true, true_and, and_false, false_and, or_true, true_or, or_false, false_or, not_true_eq_false, not_false_eq_true, Option.map_some, J_ltT, J_ltF, J_leT, J_leF, J_eqT, J_eqF, J_ntT, J_ntF, E_Mod_isShy hW, show b2 true = 1 from rfl, show b2 false = 0 from rfl, Bool.and_true, Bool.and_false, Bool.true_and, Bool.false_and, Bool.not_true, Bool.not_false]
  | succ n ih =>
    intro k o t b u8 u9 k0 k1
    have ec : (512 * p + 8 * c + k).toNat = 512 * p.toNat + (c * 8 + k).toNat := by omega
    have ed : (512 * p + 8 * d + k).toNat = 512 * p.toNat + (d * 8 + k).toNat := by omega
    have hb1 := hA (c * 8 + k).toNat (by omega)
    have hb2 := hA (d * 8 + k).toNat (by omega)
    rw [L_Mod_isShy_12 hW]
    show _ = some (Sum.inl (some (jI (b2 (eb _ n (k + 1) (o || decide (64 ≤ S 84 (512 * p.toNat + (c * 8 + k).toNat))) && eb _ n (k + 1) (t || decide (64 ≤ S 84 (512 * p.toNat + (d * 8 + k).toNat))) && !(eb _ n (k + 1) (b || (decide (64 ≤ S 84 (512 * p.toNat + (c * 8 + k).toNat)) && decide (64 ≤ S 84 (512 * p.toNat + (d * 8 + k).toNat))))))))), h)
    by_cases z1 : 64 ≤ S 84 (512 * p.toNat + (c * 8 + k).toNat)
    · by_cases z2 : 64 ≤ S 84 (512 * p.toNat + (d * 8 + k).toNat)
      · rw [decide_eq_true z1, decide_eq_true z2, ← ih (k + 1) (o || true) (t || true) (b || (true && true)) (some (.int (Int32.ofInt 1))) (some (.int (Int32.ofInt 1))) (by omega) (by omega)]
        cases o <;> cases t <;> cases b <;> simp (disch := omega) only [↓reduceIte, S0, S1, J_lt, J_le, J_eq, J_ldI, J_ldI3, J_ldB, J_ldL, J_ldR, J_stI, J_stB, J_stL, J_dv, j_gne, C0, CM, CP, CR, CJ, CS, CL, and_self, and_true, true_and, and_false, false_and, or_true, true_or, or_false, false_or, not_true_eq_false, not_false_eq_true, Option.map_some, J_ltT, J_ltF, J_leT, J_leF, J_eqT, J_eqF, J_ntT, J_ntF, E_Mod_isShy hW, H.get, q_amount hW H, ec, ed, show b2 true = 1 from rfl, show b2 false = 0 from rfl, Bool.or_true, Bool.or_false, Bool.and_self]
      · rw [decide_eq_true z1, decide_eq_false z2, ← ih (k + 1) (o || true) (t || false) (b || (true && false)) (some (.int (Int32.ofInt 1))) (some (.int (Int32.ofInt 0))) (by omega) (by omega)]
        cases o <;> cases t <;> cases b <;> simp (disch := omega) only [↓reduceIte, S0, S1, J_lt, J_le, J_eq, J_ldI, J_ldI3, J_ldB, J_ldL, J_ldR, J_stI, J_stB, J_stL, J_dv, j_gne, C0, CM, CP, CR, CJ, CS, CL, and_self, and_true, true_and, and_false, false_and, or_true, true_or, or_false, false_or, not_true_eq_false, not_false_eq_true, Option.map_some, J_ltT, J_ltF, J_leT, J_leF, J_eqT, J_eqF, J_ntT, J_ntF, E_Mod_isShy hW, H.get, q_amount hW H, ec, ed, show b2 true = 1 from rfl, show b2 false = 0 from rfl, Bool.or_true, Bool.or_false, Bool.and_false]
    · by_cases z2 : 64 ≤ S 84 (512 * p.toNat + (d * 8 + k).toNat)
      · rw [decide_eq_false z1, decide_eq_true z2, ← ih (k + 1) (o || false) (t || true) (b || (false && true)) (some (.int (Int32.ofInt 0))) (some (.int (Int32.ofInt 1))) (by omega) (by omega)]
        cases o <;> cases t <;> cases b <;> simp (disch := omega) only [↓reduceIte, S0, S1, J_lt, J_le, J_eq, J_ldI, J_ldI3, J_ldB, J_ldL, J_ldR, J_stI, J_stB, J_stL, J_dv, j_gne, C0, CM, CP, CR, CJ, CS, CL, and_self, and_true, true_and, and_false, false_and, or_true, true_or, or_false, false_or, not_true_eq_false, not_false_eq_true, Option.map_some, J_ltT, J_ltF, J_leT, J_leF, J_eqT, J_eqF, J_ntT, J_ntF, E_Mod_isShy hW, H.get, q_amount hW H, ec, ed, show b2 true = 1 from rfl, show b2 false = 0 from rfl, Bool.or_true, Bool.or_false, Bool.false_and]
      · rw [decide_eq_false z1, decide_eq_false z2, ← ih (k + 1) (o || false) (t || false) (b || (false && false)) (some (.int (Int32.ofInt 0))) (some (.int (Int32.ofInt 0))) (by omega) (by omega)]
        cases o <;> cases t <;> cases b <;> simp (disch := omega) only [↓reduceIte, S0, S1, J_lt, J_le, J_eq, J_ldI, J_ldI3, J_ldB, J_ldL, J_ldR, J_stI, J_stB, J_stL, J_dv, j_gne, C0, CM, CP, CR, CJ, CS, CL, and_self, and_true, true_and, and_false, false_and, or_true, true_or, or_false, false_or, not_true_eq_false, not_false_eq_true, Option.map_some, J_ltT, J_ltF, J_leT, J_leF, J_eqT, J_eqF, J_ntT, J_ntF, E_Mod_isShy hW, H.get, q_amount hW H, ec, ed, show b2 true = 1 from rfl, show b2 false = 0 from rfl, Bool.or_false, Bool.and_self]
theorem eb_iff (g : Int → Bool) : ∀ (n : Nat) (k : Int) (o : Bool), eb g n k o = true ↔ (o = true ∨ ∃ i : Int, k ≤ i ∧ i < k + n ∧ g i = true)
  | 0, k, o => ⟨Or.inl, fun q => q.elim id (fun ⟨i, a, b, _⟩ => by omega)⟩
  | n + 1, k, o => by
    show eb g n (k + 1) (o || g k) = true ↔ _
    rw [eb_iff g n (k + 1) (o || g k), Bool.or_eq_true]
    constructor
    · rintro ((q | q) | ⟨i, a, b, q⟩)
      · exact Or.inl q
      · exact Or.inr ⟨k, by omega, by omega, q⟩
      · exact Or.inr ⟨i, by omega, by omega, q⟩
    · rintro (q | ⟨i, a, b, q⟩)
      · exact Or.inl (Or.inl q)
      · by_cases e : i = k
        · exact Or.inl (Or.inr (e ▸ q))
        · exact Or.inr ⟨i, by omega, by omega, q⟩
end QT
