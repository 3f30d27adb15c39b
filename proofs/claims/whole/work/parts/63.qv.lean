/-! the reference looks along a ring -/
def BM (P : Nat → Prop) (b : Int) : Prop := (b = -1 ∧ ∀ i, ¬ P i) ∨ (0 ≤ b ∧ b < 64 ∧ P b.toNat ∧ ∀ i, i < b.toNat → ¬ P i)
/-- a place of the ring with the colour c, and c qualifies -/
def RG (D : Nat → Int) (Q : Nat → Prop) (p x y r i j : Int) (c : Nat) : Prop := (j = y - r ∨ j = y + r ∨ i = x - r ∨ i = x + r) ∧ (0 ≤ i ∧ i ≤ 47) ∧ (0 ≤ j ∧ j ≤ 63) ∧ D (3072 * p + 48 * j + i).toNat = c ∧ Q c
theorem BM_iff {P P' : Nat → Prop} {b : Int} (h : ∀ c, P c ↔ P' c) (k : BM P b) : BM P' b := by
  rcases k with ⟨k1, k2⟩ | ⟨k1, k2, k3, k4⟩
  · exact Or.inl ⟨k1, fun i z => k2 i ((h i).mpr z)⟩
  · exact Or.inr ⟨k1, k2, (h _).mp k3, fun i hi z => k4 i hi ((h i).mpr z)⟩
theorem BM_add {P : Nat → Prop} {b : Int} {c : Nat} (hc : c < 64) (k : BM P b) : BM (fun d => P d ∨ d = c) (if b < 0 ∨ (c : Int) < b then c else b) := by
  rcases k with ⟨k1, k2⟩ | ⟨k1, k2, k3, k4⟩
  · rw [if_pos (Or.inl (by omega))]
    exact Or.inr ⟨by omega, by omega, Or.inr (by omega), fun i hi z => z.elim (k2 i) (fun e => by omega)⟩
  · by_cases z : (c : Int) < b
    · rw [if_pos (Or.inr z)]
      exact Or.inr ⟨by omega, by omega, Or.inr (by omega), fun i hi q => q.elim (k4 i (by omega)) (fun e => by omega)⟩
    · rw [if_neg (by omega)]
      exact Or.inr ⟨k1, k2, Or.inl k3, fun i hi q => q.elim (k4 i hi) (fun e => by omega)⟩
section QV
variable {V : Nat → Value} {W : xWt} {N : Nat} {T : Nat → Nat → Int64} {h : xH} {S : Nat → Nat → Int}
theorem q_ringI (hW : xFix V W) (H : HP N h S T) {p x y w r j : Int} {o : Nat} (ho : o < 64) (hp : 0 ≤ p ∧ p < 4) (hx : 0 ≤ x ∧ x < 48) (hy : 0 ≤ y ∧ y < 64) (hr : 1 ≤ r ∧ r ≤ 3) (hj : y - r ≤ j ∧ j ≤ y + r) (hD : ∀ q, q < 12288 → (3072 * p.toNat ≤ q ∧ q < 3072 * p.toNat + 3072) → 0 ≤ S 83 q ∧ S 83 q < 64) (hA : ∀ j, j < 512 → 0 ≤ S 84 (512 * p.toNat + j) ∧ S 84 (512 * p.toNat + j) ≤ 255)
    (hM : ∀ c : Nat, c < 64 → 0 ≤ wtN (fun j => S 84 (512 * p.toNat + j)) B0 (c * 8) 8 0 0 ∧ wtN (fun j => S 84 (512 * p.toNat + j)) B0 (c * 8) 8 0 0 < 1000000) {Q : Nat → Prop} (hQ : ∀ c, Q c ↔ (litP (fun c => wtN (fun j => S 84 (512 * p.toNat + j)) B0 (c * 8) 8 0 0) c o ∧ shyP (fun c => inkN (fun j => S 84 (512 * p.toNat + j)) (c * 8) 8 0 0) c o)) :
    ∀ (n : Nat) (i b : Int) (P : Nat → Prop) (u10 u11 : Option Value), x - r ≤ i → i + n = x + r + 1 → BM P b →
      ∃ b' u10' u11', W m_Mod_spreading (47, [some (.ref (N + 78)), some (.int (Int32.ofInt p)), some (.int (Int32.ofInt x)), some (.int (Int32.ofInt y)), some (.int (Int32.ofInt w)), some (.int (Int32.ofInt ((o : Int)))), some (.int (Int32.ofInt r)), some (.int (Int32.ofInt b)), some (.int (Int32.ofInt j)), some (.int (Int32.ofInt i)), u10, u11], []) h = W m_Mod_spreading (188, [some (.ref (N + 78)), some (.int (Int32.ofInt p)), some (.int (Int32.ofInt x)), some (.int (Int32.ofInt y)), some (.int (Int32.ofInt w)), some (.int (Int32.ofInt ((o : Int)))), some (.int (Int32.ofInt r)), some (.int (Int32.ofInt (b'))), some (.int (Int32.ofInt j)), some (.int (Int32.ofInt (x + r + 1))), u10', u11'], []) h ∧ BM (fun c => P c ∨ ∃ i', i ≤ i' ∧ i' ≤ x + r ∧ RG (S 83) Q p x y r i' j c) b' := by
  intro n
  induction n with
  | zero =>
    intro i b P u10 u11 i0 i1 hb
    have e : i = x + r + 1 := by omega
    refine ⟨b, u10, u11, ?_, BM_iff (fun c => ⟨Or.inl, fun q => q.elim id (fun ⟨i', a, b, _⟩ => by omega)⟩) hb⟩
    rw [L_Mod_spreading_47 hW, e]
    simp (disch := omega) only [↓reduceIte, S0, S1, J_lt, J_le, J_eq, J_ldI, J_ldI3, J_ldB, J_ldL, J_ldR, J_stI, J_stB, J_stL, J_dv, j_gne, C0, CM, CP, CR, CJ, CS, CL, and_self, and_true, true_and, and_false, false_and, or_true, true_or, or_false, false_or, not_true_eq_false, not_false_eq_true, Option.map_some, J_ltT, J_ltF, J_leT, J_leF, J_eqT, J_eqF, J_ntT, J_ntF]
  | succ n ih =>
    intro i b P u10 u11 i0 i1 hb
    have hbr : -1 ≤ b ∧ b < 64 := by rcases hb with ⟨z, _⟩ | ⟨z1, z2, _⟩ <;> omega
    have nolit : ¬ litP (fun c => wtN (fun j => S 84 (512 * p.toNat + j)) B0 (c * 8) 8 0 0) o o := fun q => q.elim (fun z => by omega) (fun z => by omega)
    have fin : ∀ (v10 v11 : Option Value) (bn : Int), BM (fun c => P c ∨ RG (S 83) Q p x y r i j c) bn → W m_Mod_spreading (47, [some (.ref (N + 78)), some (.int (Int32.ofInt p)), some (.int (Int32.ofInt x)), some (.int (Int32.ofInt y)), some (.int (Int32.ofInt w)), some (.int (Int32.ofInt ((o : Int)))), some (.int (Int32.ofInt r)), some (.int (Int32.ofInt b)), some (.int (Int32.ofInt j)), some (.int (Int32.ofInt i)), u10, u11], []) h = W m_Mod_spreading (47, [some (.ref (N + 78)), some (.int (Int32.ofInt p)), some (.int (Int32.ofInt x)), some (.int (Int32.ofInt y)), some (.int (Int32.ofInt w)), some (.int (Int32.ofInt ((o : Int)))), some (.int (Int32.ofInt r)), some (.int (Int32.ofInt bn)), some (.int (Int32.ofInt j)), some (.int (Int32.ofInt (i + 1))), v10, v11], []) h → ∃ b' u10' u11', W m_Mod_spreading (47, [some (.ref (N + 78)), some (.int (Int32.ofInt p)), some (.int (Int32.ofInt x)), some (.int (Int32.ofInt y)), some (.int (Int32.ofInt w)), some (.int (Int32.ofInt ((o : Int)))), some (.int (Int32.ofInt r)), some (.int (Int32.ofInt b)), some (.int (Int32.ofInt j)), some (.int (Int32.ofInt i)), u10, u11], []) h = W m_Mod_spreading (188, [some (.ref (N + 78)), some (.int (Int32.ofInt p)), some (.int (Int32.ofInt x)), some (.int (Int32.ofInt y)), some (.int (Int32.ofInt w)), some (.int (Int32.ofInt ((o : Int)))), some (.int (Int32.ofInt r)), some (.int (Int32.ofInt (b'))), some (.int (Int32.ofInt j)), some (.int (Int32.ofInt (x + r + 1))), u10', u11'], []) h ∧ BM (fun c => P c ∨ ∃ i', i ≤ i' ∧ i' ≤ x + r ∧ RG (S 83) Q p x y r i' j c) b' := by
      intro v10 v11 bn hn he
      obtain ⟨b', w10, w11, r1, r2⟩ := ih (i + 1) bn _ v10 v11 (by omega) (by omega) hn
      refine ⟨b', w10, w11, he.trans r1, BM_iff (fun c => ?_) r2⟩
      constructor
      · rintro ((q | q) | ⟨i', a1, a2, a3⟩)
        · exact Or.inl q
        · exact Or.inr ⟨i, by omega, by omega, q⟩
        · exact Or.inr ⟨i', by omega, a2, a3⟩
      · rintro (q | ⟨i', a1, a2, a3⟩)
        · exact Or.inl (Or.inl q)
        · by_cases e : i' = i
          · exact Or.inl (Or.inr (e ▸ a3))
          · exact Or.inr ⟨i', by omega, a2, a3⟩
    have none0 : (∀ c, ¬ RG (S 83) Q p x y r i j c) → BM (fun c => P c ∨ RG (S 83) Q p x y r i j c) b := fun hn => BM_iff (fun c => ⟨Or.inl, fun q => q.elim id (fun z => absurd z (hn c))⟩) hb
    by_cases z1 : j = y - r ∨ j = y + r ∨ i = x - r ∨ i = x + r
    · have ed : ∀ (v10 v11 : Option Value), W m_Mod_spreading (56, [some (.ref (N + 78)), some (.int (Int32.ofInt p)), some (.int (Int32.ofInt x)), some (.int (Int32.ofInt y)), some (.int (Int32.ofInt w)), some (.int (Int32.ofInt ((o : Int)))), some (.int (Int32.ofInt r)), some (.int (Int32.ofInt b)), some (.int (Int32.ofInt j)), some (.int (Int32.ofInt i)), v10, v11], []) h = W m_Mod_spreading (104, [some (.ref (N + 78)), some (.int (Int32.ofInt p)), some (.int (Int32.ofInt x)), some (.int (Int32.ofInt y)), some (.int (Int32.ofInt w)), some (.int (Int32.ofInt ((o : Int)))), some (.int (Int32.ofInt r)), some (.int (Int32.ofInt b)), some (.int (Int32.ofInt j)), some (.int (Int32.ofInt i)), some (.int (Int32.ofInt 1)), v11], []) h := by
        intro v10 v11
        have e104 : W m_Mod_spreading (92, [some (.ref (N + 78)), some (.int (Int32.ofInt p)), some (.int (Int32.ofInt x)), some (.int (Int32.ofInt y)), some (.int (Int32.ofInt w)), some (.int (Int32.ofInt ((o : Int)))), some (.int (Int32.ofInt r)), some (.int (Int32.ofInt b)), some (.int (Int32.ofInt j)), some (.int (Int32.ofInt i)), v10, v11], []) h = W m_Mod_spreading (104, [some (.ref (N + 78)), some (.int (Int32.ofInt p)), some (.int (Int32.ofInt x)), some (.int (Int32.ofInt y)), some (.int (Int32.ofInt w)), some (.int (Int32.ofInt ((o : Int)))), some (.int (Int32.ofInt r)), some (.int (Int32.ofInt b)), some (.int (Int32.ofInt j)), some (.int (Int32.ofInt i)), some (.int (Int32.ofInt 1)), v11], []) h := by
          obtain ⟨-, -, -, -, -, -, -, -, -, -, k92, -⟩ := E_Mod_spreading hW
          rw [k92, if_neg (by decide)]
        rw [← e104]
        obtain ⟨-, -, -, -, -, -, k56, k65, k74, k83, -⟩ := E_Mod_spreading hW
        by_cases e1 : j = y - r
        · rw [k56, e1]; simp (disch := omega) only [↓reduceIte, S0, S1, J_lt, J_le, J_eq, J_ldI, J_ldI3, J_ldB, J_ldL, J_ldR, J_stI, J_stB, J_stL, J_dv, j_gne, C0, CM, CP, CR, CJ, CS, CL, and_self, and_true, true_and, and_false, false_and, or_true, true_or, or_false, false_or, not_true_eq_false, not_false_eq_true, Option.map_some, J_ltT, J_ltF, J_leT, J_leF, J_eqT, J_eqF, J_ntT, J_ntF]
        · by_cases e2 : j = y + r
          · rw [k56, k65, e2]; simp (disch := omega) only [↓reduceIte, S0, S1, J_lt, J_le, J_eq, J_ldI, J_ldI3, J_ldB, J_ldL, J_ldR, J_stI, J_stB, J_stL, J_dv, j_gne, C0, CM, CP, CR, CJ, CS, CL, and_self, and_true, true_and, and_false, false_and, or_true, true_or, or_false, false_or, not_true_eq_false, not_false_eq_true, Option.map_some, J_ltT, J_ltF, J_leT, J_leF, J_eqT, J_eqF, J_ntT, J_ntF]
          · by_cases e3 : i = x - r
            · rw [k56, k65, k74, e3]; simp (disch := omega) only [↓reduceIte, S0, S1, J_lt, J_le, J_eq, J_ldI, J_ldI3, J_ldB, J_ldL, J_ldR, J_stI, J_stB, J_stL, J_dv, j_gne, C0, CM, CP, CR, CJ, CS, CL, and_self, and_true, true_and, and_false, false_and, or_true, true_or, or_false, false_or, not_true_eq_false, not_false_eq_true, Option.map_some, J_ltT, J_ltF, J_leT, J_leF, J_eqT, J_eqF, J_ntT, J_ntF]
            · have e4 : i = x + r := by omega
              rw [k56, k65, k74, k83, e4]; simp (disch := omega) only [↓reduceIte, S0, S1, J_lt, J_le, J_eq, J_ldI, J_ldI3, J_ldB, J_ldL, J_ldR, J_stI, J_stB, J_stL, J_dv, j_gne, C0, CM, CP, CR, CJ, CS, CL, and_self, and_true, true_and, and_false, false_and, or_true, true_or, or_false, false_or, not_true_eq_false, not_false_eq_true, Option.map_some, J_ltT, J_ltF, J_leT, J_leF, J_eqT, J_eqF, J_ntT, J_ntF]
      by_cases z2 : (0 ≤ i ∧ i ≤ 47) ∧ (0 ≤ j ∧ j ≤ 63)
      · have hd := hD (3072 * p + 48 * j + i).toNat (by omega) (by omega)
        obtain ⟨c, ec⟩ : ∃ c : Nat, S 83 (3072 * p + 48 * j + i).toNat = (c : Int) := ⟨(S 83 (3072 * p + 48 * j + i).toNat).toNat, by omega⟩
        have c64 : c < 64 := by omega
        have hRG : ∀ d, RG (S 83) Q p x y r i j d ↔ (d = c ∧ Q c) := fun d => by
          unfold RG
          rw [ec]
          constructor
          · rintro ⟨_, _, _, a4, a5⟩
            have : d = c := by omega
            subst this
            exact ⟨rfl, a5⟩
          · rintro ⟨rfl, a5⟩
            exact ⟨z1, z2.1, z2.2, rfl, a5⟩
        have d1 : Decidable (litP (fun c => wtN (fun j => S 84 (512 * p.toNat + j)) B0 (c * 8) 8 0 0) c o) := Classical.propDecidable _
        have d2 : Decidable (shyP (fun c => inkN (fun j => S 84 (512 * p.toNat + j)) (c * 8) 8 0 0) c o) := Classical.propDecidable _
        have l1 := q_isLighter hW H hp c64 ho hM d1
        have l2 := q_isShy hW H hp c64 ho hA d2
        have notQ : ¬ Q c → BM (fun d => P d ∨ RG (S 83) Q p x y r i j d) b := fun nq => none0 (fun d q => nq ((hRG d).mp q).2)
        have st : W m_Mod_spreading (47, [some (.ref (N + 78)), some (.int (Int32.ofInt p)), some (.int (Int32.ofInt x)), some (.int (Int32.ofInt y)), some (.int (Int32.ofInt w)), some (.int (Int32.ofInt ((o : Int)))), some (.int (Int32.ofInt r)), some (.int (Int32.ofInt b)), some (.int (Int32.ofInt j)), some (.int (Int32.ofInt i)), u10, u11], []) h = W m_Mod_spreading (128, [some (.ref (N + 78)), some (.int (Int32.ofInt p)), some (.int (Int32.ofInt x)), some (.int (Int32.ofInt y)), some (.int (Int32.ofInt w)), some (.int (Int32.ofInt ((o : Int)))), some (.int (Int32.ofInt r)), some (.int (Int32.ofInt b)), some (.int (Int32.ofInt j)), some (.int (Int32.ofInt i)), some (.int (Int32.ofInt 1)), u11], [(.int (Int32.ofInt ((c : Int))))]) h := by
          obtain ⟨-, -, -, -, -, -, -, -, -, -, -, -, k104, k112, k115, k119, k127, -⟩ := E_Mod_spreading hW
          rw [L_Mod_spreading_47 hW]
          simp (disch := omega) only [↓reduceIte, S0, S1, J_lt, J_le, J_eq, J_ldI, J_ldI3, J_ldB, J_ldL, J_ldR, J_stI, J_stB, J_stL, J_dv, j_gne, C0, CM, CP, CR, CJ, CS, CL, and_self, and_true, true_and, and_false, false_and, or_true, true_or, or_false, false_or, not_true_eq_false, not_false_eq_true, Option.map_some, J_ltT, J_ltF, J_leT, J_leF, J_eqT, J_eqF, J_ntT, J_ntF, ed, k104, q_isCell hW, k112, k115, H.get, k119, q_at hW, k127, ec]
        by_cases y1 : c = o
        · refine fin (some (.int (Int32.ofInt 1))) (some (.int (Int32.ofInt ((c : Int))))) b (notQ (fun q => nolit (y1 ▸ ((hQ c).mp q).1))) ?_
          rw [st]
          subst y1
          simp (disch := omega) only [↓reduceIte, S0, S1, J_lt, J_le, J_eq, J_ldI, J_ldI3, J_ldB, J_ldL, J_ldR, J_stI, J_stB, J_stL, J_dv, j_gne, C0, CM, CP, CR, CJ, CS, CL, and_self, and_true, true_and, and_false, false_and, or_true, true_or, or_false, false_or, not_true_eq_false, not_false_eq_true, Option.map_some, J_ltT, J_ltF, J_leT, J_leF, J_eqT, J_eqF, J_ntT, J_ntF, E_Mod_spreading hW]
        · by_cases y2 : b < 0 ∨ (c : Int) < b
          · by_cases y3 : Q c
            · have hb1 := BM_add c64 hb
              rw [if_pos y2] at hb1
              obtain ⟨q1, q2⟩ := (hQ c).mp y3
              rw [if_pos q1] at l1
              rw [if_pos q2] at l2
              refine fin (some (.int (Int32.ofInt 1))) (some (.int (Int32.ofInt ((c : Int))))) (c : Int) (BM_iff (fun d => or_congr Iff.rfl ⟨fun e => (hRG d).mpr ⟨e, y3⟩, fun e => ((hRG d).mp e).1⟩) hb1) ?_
              rw [st]
              by_cases y4 : b < 0
              · simp (disch := omega) only [↓reduceIte, S0, S1, J_lt, J_le, J_eq, J_ldI, J_ldI3, J_ldB, J_ldL, J_ldR, J_stI, J_stB, J_stL, J_dv, j_gne, C0, CM, CP, CR, CJ, CS, CL, and_self, and_true, true_and, and_false, false_and, or_true, true_or, or_false, false_or, not_true_eq_false, not_false_eq_true, Option.map_some, J_ltT, J_ltF, J_leT, J_leF, J_eqT, J_eqF, J_ntT, J_ntF, E_Mod_spreading hW, H.get, l1, l2]
              · simp (disch := omega) only [↓reduceIte, S0, S1, J_lt, J_le, J_eq, J_ldI, J_ldI3, J_ldB, J_ldL, J_ldR, J_stI, J_stB, J_stL, J_dv, j_gne, C0, CM, CP, CR, CJ, CS, CL, and_self, and_true, true_and, and_false, false_and, or_true, true_or, or_false, false_or, not_true_eq_false, not_false_eq_true, Option.map_some, J_ltT, J_ltF, J_leT, J_leF, J_eqT, J_eqF, J_ntT, J_ntF, E_Mod_spreading hW, H.get, l1, l2]
            · refine fin (some (.int (Int32.ofInt 1))) (some (.int (Int32.ofInt ((c : Int))))) b (notQ y3) ?_
              rw [st]
              by_cases q1 : litP (fun c => wtN (fun j => S 84 (512 * p.toNat + j)) B0 (c * 8) 8 0 0) c o
              · rw [if_pos q1] at l1
                rw [if_neg (fun q2 => y3 ((hQ c).mpr ⟨q1, q2⟩))] at l2
                by_cases y4 : b < 0
                · simp (disch := omega) only [↓reduceIte, S0, S1, J_lt, J_le, J_eq, J_ldI, J_ldI3, J_ldB, J_ldL, J_ldR, J_stI, J_stB, J_stL, J_dv, j_gne, C0, CM, CP, CR, CJ, CS, CL, and_self, and_true, true_and, and_false, false_and, or_true, true_or, or_false, false_or, not_true_eq_false, not_false_eq_true, Option.map_some, J_ltT, J_ltF, J_leT, J_leF, J_eqT, J_eqF, J_ntT, J_ntF, E_Mod_spreading hW, H.get, l1, l2]
                · simp (disch := omega) only [↓reduceIte, S0, S1, J_lt, J_le, J_eq, J_ldI, J_ldI3, J_ldB, J_ldL, J_ldR, J_stI, J_stB, J_stL, J_dv, j_gne, C0, CM, CP, CR, CJ, CS, CL, and_self, and_true, true_and, and_false, false_and, or_true, true_or, or_false, false_or, not_true_eq_false, not_false_eq_true, Option.map_some, J_ltT, J_ltF, J_leT, J_leF, J_eqT, J_eqF, J_ntT, J_ntF, E_Mod_spreading hW, H.get, l1, l2]
              · rw [if_neg q1] at l1
                by_cases y4 : b < 0
                · simp (disch := omega) only [↓reduceIte, S0, S1, J_lt, J_le, J_eq, J_ldI, J_ldI3, J_ldB, J_ldL, J_ldR, J_stI, J_stB, J_stL, J_dv, j_gne, C0, CM, CP, CR, CJ, CS, CL, and_self, and_true, true_and, and_false, false_and, or_true, true_or, or_false, false_or, not_true_eq_false, not_false_eq_true, Option.map_some, J_ltT, J_ltF, J_leT, J_leF, J_eqT, J_eqF, J_ntT, J_ntF, E_Mod_spreading hW, H.get, l1]
                · simp (disch := omega) only [↓reduceIte, S0, S1, J_lt, J_le, J_eq, J_ldI, J_ldI3, J_ldB, J_ldL, J_ldR, J_stI, J_stB, J_stL, J_dv, j_gne, C0, CM, CP, CR, CJ, CS, CL, and_self, and_true, true_and, and_false, false_and, or_true, true_or, or_false, false_or, not_true_eq_false, not_false_eq_true, Option.map_some, J_ltT, J_ltF, J_leT, J_leF, J_eqT, J_eqF, J_ntT, J_ntF, E_Mod_spreading hW, H.get, l1]
          · have hbn : BM (fun d => P d ∨ RG (S 83) Q p x y r i j d) b := by
              by_cases y3 : Q c
              · have hb1 := BM_add c64 hb
                rw [if_neg y2] at hb1
                exact BM_iff (fun d => or_congr Iff.rfl ⟨fun e => (hRG d).mpr ⟨e, y3⟩, fun e => ((hRG d).mp e).1⟩) hb1
              · exact notQ y3
            refine fin (some (.int (Int32.ofInt 1))) (some (.int (Int32.ofInt ((c : Int))))) b hbn ?_
            rw [st]
            simp (disch := omega) only [↓reduceIte, S0, S1, J_lt, J_le, J_eq, J_ldI, J_ldI3, J_ldB, J_ldL, J_ldR, J_stI, J_stB, J_stL, J_dv, j_gne, C0, CM, CP, CR, CJ, CS, CL, and_self, and_true, true_and, and_false, false_and, or_true, true_or, or_false, false_or, not_true_eq_false, not_false_eq_true, Option.map_some, J_ltT, J_ltF, J_leT, J_leF, J_eqT, J_eqF, J_ntT, J_ntF, E_Mod_spreading hW]
      · refine fin (some (.int (Int32.ofInt 1))) (some (.int (Int32.ofInt ((o : Int))))) b (none0 (fun c q => z2 ⟨q.2.1, q.2.2.1⟩)) ?_
        rw [L_Mod_spreading_47 hW]
        simp (disch := omega) only [↓reduceIte, S0, S1, J_lt, J_le, J_eq, J_ldI, J_ldI3, J_ldB, J_ldL, J_ldR, J_stI, J_stB, J_stL, J_dv, j_gne, C0, CM, CP, CR, CJ, CS, CL, and_self, and_true, true_and, and_false, false_and, or_true, true_or, or_false, false_or, not_true_eq_false, not_false_eq_true, Option.map_some, J_ltT, J_ltF, J_leT, J_leF, J_eqT, J_eqF, J_ntT, J_ntF, ed]
        simp (disch := omega) only [↓reduceIte, S0, S1, J_lt, J_le, J_eq, J_ldI, J_ldI3, J_ldB, J_ldL, J_ldR, J_stI, J_stB, J_stL, J_dv, j_gne, C0, CM, CP, CR, CJ, CS, CL, and_self, and_true, true_and, and_false, false_and, or_true, true_or, or_false, false_or, not_true_eq_false, not_false_eq_true, Option.map_some, J_ltT, J_ltF, J_leT, J_leF, J_eqT, J_eqF, J_ntT, J_ntF, E_Mod_spreading hW, q_isCell hW, show ¬ ((0 ≤ p ∧ p ≤ 3) ∧ (0 ≤ i ∧ i ≤ 47) ∧ (0 ≤ j ∧ j ≤ 63)) from fun q => z2 q.2]
    · refine fin (some (.int (Int32.ofInt 0))) (some (.int (Int32.ofInt ((o : Int))))) b (none0 (fun c q => z1 q.1)) ?_
      rw [L_Mod_spreading_47 hW]
      simp (disch := omega) only [↓reduceIte, S0, S1, J_lt, J_le, J_eq, J_ldI, J_ldI3, J_ldB, J_ldL, J_ldR, J_stI, J_stB, J_stL, J_dv, j_gne, C0, CM, CP, CR, CJ, CS, CL, and_self, and_true, true_and, and_false, false_and, or_true, true_or, or_false, false_or, not_true_eq_false, not_false_eq_true, Option.map_some, J_ltT, J_ltF, J_leT, J_leF, J_eqT, J_eqF, J_ntT, J_ntF, E_Mod_spreading hW]
end QV
