/-- some place of the ring r -/
def RQ (D : Nat → Int) (Q : Nat → Prop) (p x y r : Int) (c : Nat) : Prop := ∃ j i : Int, (y - r ≤ j ∧ j ≤ y + r) ∧ (x - r ≤ i ∧ i ≤ x + r) ∧ RG D Q p x y r i j c
/-- the first ring that has one, from r on, n rings -/
def TVr (R : Int → Nat → Prop) : Nat → Int → Int → Prop
  | 0, _, v => v = -1
  | n + 1, r, v => (BM (R r) v ∧ 0 ≤ v) ∨ ((∀ c, ¬ R r c) ∧ TVr R n (r + 1) v)
section QW
variable {V : Nat → Value} {W : xWt} {N : Nat} {T : Nat → Nat → Int64} {h : xH} {S : Nat → Nat → Int}
theorem q_ringJ (hW : xFix V W) (H : HP N h S T) {p x y w r : Int} {o : Nat} (ho : o < 64) (hp : 0 ≤ p ∧ p < 4) (hx : 0 ≤ x ∧ x < 48) (hy : 0 ≤ y ∧ y < 64) (hr : 1 ≤ r ∧ r ≤ 3) (hD : ∀ q, q < 12288 → (3072 * p.toNat ≤ q ∧ q < 3072 * p.toNat + 3072) → 0 ≤ S 83 q ∧ S 83 q < 64) (hA : ∀ j, j < 512 → 0 ≤ S 84 (512 * p.toNat + j) ∧ S 84 (512 * p.toNat + j) ≤ 255)
    (hM : ∀ c : Nat, c < 64 → 0 ≤ wtN (fun j => S 84 (512 * p.toNat + j)) B0 (c * 8) 8 0 0 ∧ wtN (fun j => S 84 (512 * p.toNat + j)) B0 (c * 8) 8 0 0 < 1000000) {Q : Nat → Prop} (hQ : ∀ c, Q c ↔ (litP (fun c => wtN (fun j => S 84 (512 * p.toNat + j)) B0 (c * 8) 8 0 0) c o ∧ shyP (fun c => inkN (fun j => S 84 (512 * p.toNat + j)) (c * 8) 8 0 0) c o)) :
    ∀ (n : Nat) (j b : Int) (P : Nat → Prop) (u9 u10 u11 : Option Value), y - r ≤ j → j + n = y + r + 1 → BM P b →
      ∃ b' u9' u10' u11', W m_Mod_spreading (32, [some (.ref (N + 78)), some (.int (Int32.ofInt p)), some (.int (Int32.ofInt x)), some (.int (Int32.ofInt y)), some (.int (Int32.ofInt w)), some (.int (Int32.ofInt ((o : Int)))), some (.int (Int32.ofInt r)), some (.int (Int32.ofInt b)), some (.int (Int32.ofInt j)), u9, u10, u11], []) h = W m_Mod_spreading (194, [some (.ref (N + 78)), some (.int (Int32.ofInt p)), some (.int (Int32.ofInt x)), some (.int (Int32.ofInt y)), some (.int (Int32.ofInt w)), some (.int (Int32.ofInt ((o : Int)))), some (.int (Int32.ofInt r)), some (.int (Int32.ofInt (b'))), some (.int (Int32.ofInt (y + r + 1))), u9', u10', u11'], []) h ∧ BM (fun c => P c ∨ ∃ j' i', (j ≤ j' ∧ j' ≤ y + r) ∧ (x - r ≤ i' ∧ i' ≤ x + r) ∧ RG (S 83) Q p x y r i' j' c) b' := by
  intro n
  induction n with
  | zero =>
    intro j b P u9 u10 u11 j0 j1 hb
    have e : j = y + r + 1 := by omega
    refine ⟨b, u9, u10, u11, ?_, BM_iff (fun c => ⟨Or.inl, fun q => q.elim id (fun ⟨j', i', a, _, _⟩ => by omega)⟩) hb⟩
    rw [L_Mod_spreading_32 hW, e]
    simp (disch := omega) only [↓reduceIte, S0, S1, J_lt, J_le, J_eq, J_ldI, J_ldI3, J_ldB, J_ldL, J_ldR, J_stI, J_stB, J_stL, J_dv, j_gne, C0, CM, CP, CR, CJ, CS, CL, and_self, and_true, true_and, and_false, false_and, or_true, true_or, or_false, false_or, not_true_eq_false, not_false_eq_true, Option.map_some, J_ltT, J_ltF, J_leT, J_leF, J_eqT, J_eqF, J_ntT, J_ntF]
  | succ n ih =>
    intro j b P u9 u10 u11 j0 j1 hb
    obtain ⟨b1, v10, v11, r1, r2⟩ := q_ringI hW H (w := w) ho hp hx hy hr (j := j) (by omega) hD hA hM hQ (2 * r + 1).toNat (x - r) b P u10 u11 (by omega) (by omega) hb
    obtain ⟨b2, w9, w10, w11, r3, r4⟩ := ih (j + 1) b1 _ (some (.int (Int32.ofInt (x + r + 1)))) v10 v11 (by omega) (by omega) r2
    refine ⟨b2, w9, w10, w11, ?_, BM_iff (fun c => ?_) r4⟩
    · obtain ⟨k0, k4, k10, k11, k23, k41, -⟩ := E_Mod_spreading hW
      have k188 : W m_Mod_spreading (188, [some (.ref (N + 78)), some (.int (Int32.ofInt p)), some (.int (Int32.ofInt x)), some (.int (Int32.ofInt y)), some (.int (Int32.ofInt w)), some (.int (Int32.ofInt ((o : Int)))), some (.int (Int32.ofInt r)), some (.int (Int32.ofInt b1)), some (.int (Int32.ofInt j)), some (.int (Int32.ofInt (x + r + 1))), v10, v11], []) h = W m_Mod_spreading (32, [some (.ref (N + 78)), some (.int (Int32.ofInt p)), some (.int (Int32.ofInt x)), some (.int (Int32.ofInt y)), some (.int (Int32.ofInt w)), some (.int (Int32.ofInt ((o : Int)))), some (.int (Int32.ofInt r)), some (.int (Int32.ofInt b1)), some (.int (Int32.ofInt (j + 1))), some (.int (Int32.ofInt (x + r + 1))), v10, v11], []) h := by
        simp only [E_Mod_spreading hW, S0]
      rw [L_Mod_spreading_32 hW, ← r3, ← k188, ← r1]
      simp (disch := omega) only [↓reduceIte, S0, S1, J_lt, J_le, J_eq, J_ldI, J_ldI3, J_ldB, J_ldL, J_ldR, J_stI, J_stB, J_stL, J_dv, j_gne, C0, CM, CP, CR, CJ, CS, CL, and_self, and_true, true_and, and_false, false_and, or_true, true_or, or_false, false_or, not_true_eq_false, not_false_eq_true, Option.map_some, J_ltT, J_ltF, J_leT, J_leF, J_eqT, J_eqF, J_ntT, J_ntF, k41]
    · constructor
      · rintro ((q | ⟨i', a1, a2, a3⟩) | ⟨j', i', a1, a2, a3⟩)
        · exact Or.inl q
        · exact Or.inr ⟨j, i', by omega, by omega, a3⟩
        · exact Or.inr ⟨j', i', by omega, a2, a3⟩
      · rintro (q | ⟨j', i', a1, a2, a3⟩)
        · exact Or.inl (Or.inl q)
        · by_cases e : j' = j
          · subst e
            exact Or.inl (Or.inr ⟨i', a2.1, a2.2, a3⟩)
          · exact Or.inr ⟨j', i', by omega, a2, a3⟩
theorem q_rings (hW : xFix V W) (H : HP N h S T) {p x y w : Int} {o : Nat} (ho : o < 64) (hp : 0 ≤ p ∧ p < 4) (hx : 0 ≤ x ∧ x < 48) (hy : 0 ≤ y ∧ y < 64) (hw : w ≤ 3) (hD : ∀ q, q < 12288 → (3072 * p.toNat ≤ q ∧ q < 3072 * p.toNat + 3072) → 0 ≤ S 83 q ∧ S 83 q < 64) (hA : ∀ j, j < 512 → 0 ≤ S 84 (512 * p.toNat + j) ∧ S 84 (512 * p.toNat + j) ≤ 255)
    (hM : ∀ c : Nat, c < 64 → 0 ≤ wtN (fun j => S 84 (512 * p.toNat + j)) B0 (c * 8) 8 0 0 ∧ wtN (fun j => S 84 (512 * p.toNat + j)) B0 (c * 8) 8 0 0 < 1000000) {Q : Nat → Prop} (hQ : ∀ c, Q c ↔ (litP (fun c => wtN (fun j => S 84 (512 * p.toNat + j)) B0 (c * 8) 8 0 0) c o ∧ shyP (fun c => inkN (fun j => S 84 (512 * p.toNat + j)) (c * 8) 8 0 0) c o)) :
    ∀ (n : Nat) (r : Int) (u7 u8 u9 u10 u11 : Option Value), 1 ≤ r → r + n = w + 1 →
      ∃ v, W m_Mod_spreading (16, [some (.ref (N + 78)), some (.int (Int32.ofInt p)), some (.int (Int32.ofInt x)), some (.int (Int32.ofInt y)), some (.int (Int32.ofInt w)), some (.int (Int32.ofInt ((o : Int)))), some (.int (Int32.ofInt r)), u7, u8, u9, u10, u11], []) h = some (.inl (some (jI v)), h) ∧ TVr (RQ (S 83) Q p x y) n r v := by
  intro n
  induction n with
  | zero =>
    intro r u7 u8 u9 u10 u11 r0 r1
    refine ⟨-1, ?_, rfl⟩
    rw [L_Mod_spreading_16 hW]
    simp (disch := omega) only [↓reduceIte, S0, S1, J_lt, J_le, J_eq, J_ldI, J_ldI3, J_ldB, J_ldL, J_ldR, J_stI, J_stB, J_stL, J_dv, j_gne, C0, CM, CP, CR, CJ, CS, CL, and_self, and_true, true_and, and_false, false_and, or_true, true_or, or_false, false_or, not_true_eq_false, not_false_eq_true, Option.map_some, J_ltT, J_ltF, J_leT, J_leF, J_eqT, J_eqF, J_ntT, J_ntF, E_Mod_spreading hW]
  | succ n ih =>
    intro r u7 u8 u9 u10 u11 r0 r1
    obtain ⟨b, w9, w10, w11, r2, r3⟩ := q_ringJ hW H (w := w) ho hp hx hy (r := r) (by omega) hD hA hM hQ (2 * r + 1).toNat (y - r) (-1) (fun _ => False) u9 u10 u11 (by omega) (by omega) (Or.inl ⟨rfl, fun _ => id⟩)
    have r4 : BM (RQ (S 83) Q p x y r) b := BM_iff (fun c => ⟨fun q => q.elim False.elim id, Or.inr⟩) r3
    have hbr : -1 ≤ b ∧ b < 64 := by rcases r4 with ⟨z, _⟩ | ⟨z1, z2, _⟩ <;> omega
    by_cases z : b < 0
    · have hn : ∀ c, ¬ RQ (S 83) Q p x y r c := by
        rcases r4 with ⟨_, q⟩ | ⟨q, _⟩
        · exact q
        · omega
      obtain ⟨v, e1, e2⟩ := ih (r + 1) (some (.int (Int32.ofInt b))) (some (.int (Int32.ofInt (y + r + 1)))) w9 w10 w11 (by omega) (by omega)
      refine ⟨v, ?_, Or.inr ⟨hn, e2⟩⟩
      rw [L_Mod_spreading_16 hW, ← e1]
      obtain ⟨k0, k4, k10, k11, k23, -⟩ := E_Mod_spreading hW
      simp (disch := omega) only [↓reduceIte, S0, S1, J_lt, J_le, J_eq, J_ldI, J_ldI3, J_ldB, J_ldL, J_ldR, J_stI, J_stB, J_stL, J_dv, j_gne, C0, CM, CP, CR, CJ, CS, CL, and_self, and_true, true_and, and_false, false_and, or_true, true_or, or_false, false_or, not_true_eq_false, not_false_eq_true, Option.map_some, J_ltT, J_ltF, J_leT, J_leF, J_eqT, J_eqF, J_ntT, J_ntF, k23, r2]
      simp (disch := omega) only [↓reduceIte, S0, S1, J_lt, J_le, J_eq, J_ldI, J_ldI3, J_ldB, J_ldL, J_ldR, J_stI, J_stB, J_stL, J_dv, j_gne, C0, CM, CP, CR, CJ, CS, CL, and_self, and_true, true_and, and_false, false_and, or_true, true_or, or_false, false_or, not_true_eq_false, not_false_eq_true, Option.map_some, J_ltT, J_ltF, J_leT, J_leF, J_eqT, J_eqF, J_ntT, J_ntF, E_Mod_spreading hW]
    · refine ⟨b, ?_, Or.inl ⟨r4, by omega⟩⟩
      rw [L_Mod_spreading_16 hW]
      obtain ⟨k0, k4, k10, k11, k23, -⟩ := E_Mod_spreading hW
      simp (disch := omega) only [↓reduceIte, S0, S1, J_lt, J_le, J_eq, J_ldI, J_ldI3, J_ldB, J_ldL, J_ldR, J_stI, J_stB, J_stL, J_dv, j_gne, C0, CM, CP, CR, CJ, CS, CL, and_self, and_true, true_and, and_false, false_and, or_true, true_or, or_false, false_or, not_true_eq_false, not_false_eq_true, Option.map_some, J_ltT, J_ltF, J_leT, J_leF, J_eqT, J_eqF, J_ntT, J_ntF, k23, r2]
      simp (disch := omega) only [↓reduceIte, S0, S1, J_lt, J_le, J_eq, J_ldI, J_ldI3, J_ldB, J_ldL, J_ldR, J_stI, J_stB, J_stL, J_dv, j_gne, C0, CM, CP, CR, CJ, CS, CL, and_self, and_true, true_and, and_false, false_and, or_true, true_or, or_false, false_or, not_true_eq_false, not_false_eq_true, Option.map_some, J_ltT, J_ltF, J_leT, J_leF, J_eqT, J_eqF, J_ntT, J_ntF, E_Mod_spreading hW]
end QW
