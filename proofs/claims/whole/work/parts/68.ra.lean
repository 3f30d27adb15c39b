section RA
variable {V : Nat → Value} {W : xWt} {N : Nat} {T : Nat → Nat → Int64}
theorem q_trap (hW : xFix V W) {p w : Int} (hp : j32 p) (hw : j32 w) {h : xH} {S : Nat → Nat → Int} (H : HP N h S T) (hm : ∀ q, q < 4 → (S 81 q = 0 ∨ S 81 q = 1) ∧ (S 82 q = 0 ∨ S 82 q = 1)) (hJ : ∀ q, q < 4 → S 81 q = 1 → (∀ j, j < 3072 → 0 ≤ S 83 (3072 * q + j) ∧ S 83 (3072 * q + j) < 64) ∧ ∀ j, j < 512 → 0 ≤ S 84 (512 * q + j) ∧ S 84 (512 * q + j) ≤ 255) :
    if 0 ≤ p ∧ p < 4 then (if 1 ≤ w ∧ w ≤ 3 then (if S 81 p.toNat = 1 ∧ S 82 p.toNat = 0 then ∃ h' S', W m_Mod_trap (0, [some (.ref (N + 78)), some (.int (Int32.ofInt p)), some (.int (Int32.ofInt w)), none, none, none, none], []) h = some (.inl (some (jI (cq (fun q => S' 85 (3072 * p.toNat + q) - 1) 3072 0))), h') ∧ HP N h' S' T ∧ h'.2 = h.2 ∧ (∀ k, k ≠ 78 → k ≠ 82 → k ≠ 85 → S' k = S k) ∧ S' 78 = jup (S 78) 0 0 ∧ S' 82 = jup (S 82) p.toNat 1 ∧ (∀ q : Nat, ((q : Int) < 3072 * p ∨ 3072 * p + 3072 ≤ (q : Int)) → S' 85 q = S 85 q) ∧ ∀ y' x' : Int, 0 ≤ y' → y' < 64 → 0 ≤ x' → x' < 48 → TVr (RQ (S 83) (QM S p (S 83 (3072 * p + 48 * y' + x').toNat).toNat) p x' y') w.toNat 1 (S' 85 (3072 * p + 48 * y' + x').toNat - 1)
      else W m_Mod_trap (0, [some (.ref (N + 78)), some (.int (Int32.ofInt p)), some (.int (Int32.ofInt w)), none, none, none, none], []) h = some (.inl (some (jI 0)), hth N h S T 3)) else W m_Mod_trap (0, [some (.ref (N + 78)), some (.int (Int32.ofInt p)), some (.int (Int32.ofInt w)), none, none, none, none], []) h = some (.inl (some (jI 0)), hth N h S T 2)) else W m_Mod_trap (0, [some (.ref (N + 78)), some (.int (Int32.ofInt p)), some (.int (Int32.ofInt w)), none, none, none, none], []) h = some (.inl (some (jI 0)), hth N h S T 1) := by
  by_cases c1 : 0 ≤ p ∧ p < 4
  · rw [if_pos c1]
    by_cases c2 : 1 ≤ w ∧ w ≤ 3
    · rw [if_pos c2]
      have hp4 : p.toNat < 4 := by omega
      obtain ⟨m1, m2⟩ := hm p.toNat hp4
      by_cases c3 : S 81 p.toNat = 1 ∧ S 82 p.toNat = 0
      · rw [if_pos c3]
        have J := hJ p.toNat hp4 c3.1
        have H1 := H.th 0
        have H2 := H1.put (k := 82) (by omega) (jup (S 82) p.toNat 1) (e := jA 2 4 (jup (S 82) p.toNat 1)) rfl
        have g83 : sup (sup S 78 (jup (S 78) 0 0)) 82 (jup (S 82) p.toNat 1) 83 = S 83 := by rw [sup_ne _ _ (by decide), sup_ne _ _ (by decide)]
        have g84 : sup (sup S 78 (jup (S 78) 0 0)) 82 (jup (S 82) p.toNat 1) 84 = S 84 := by rw [sup_ne _ _ (by decide), sup_ne _ _ (by decide)]
        have g85 : sup (sup S 78 (jup (S 78) 0 0)) 82 (jup (S 82) p.toNat 1) 85 = S 85 := by rw [sup_ne _ _ (by decide), sup_ne _ _ (by decide)]
        obtain ⟨h', S', r1, r2, r3, r4, r5, r6⟩ := q_trapY hW c1 c2 (D := S 83) (A := S 84) (fun q _ hq => by
          have := J.1 (q - 3072 * p.toNat) (by omega)
          rw [show 3072 * p.toNat + (q - 3072 * p.toNat) = q by omega] at this
          omega) (fun j hj => J.2 j hj) 64 0 _ _ 0 none none H2 g83 g84 (by omega) (by omega)
        rw [Int.zero_add] at r1
        rw [g83] at r6
        rw [g85] at r5
        have qm : ∀ o, QM (sup (sup S 78 (jup (S 78) 0 0)) 82 (jup (S 82) p.toNat 1)) p o = QM S p o := fun o => by unfold QM; rw [g84]
        refine ⟨h', S', ?_, r2, r3.trans rfl, fun k k1 k2 k3 => by rw [r4 k k3, sup_ne _ _ k2, sup_ne _ _ k1], by rw [r4 78 (by decide), sup_ne _ _ (by decide), sup_same], by rw [r4 82 (by decide), sup_same], fun q hq => r5 q (by omega), fun y' x' b1 b2 b3 b4 => ?_⟩
        · rw [show cq (fun q => S' 85 (3072 * p.toNat + q) - 1) 3072 0 = cq (fun q => S' 85 (3072 * p.toNat + q) - 1) (48 * 64) (48 * 0 : Int).toNat from rfl, ← r1]
          simp (disch := omega) only [↓reduceIte, S0, S1, J_lt, J_le, J_eq, J_ldI, J_ldI3, J_ldB, J_ldL, J_ldR, J_stI, J_stB, J_stL, J_dv, j_gne, C0, CM, CP, CR, CJ, CS, CL, and_self, and_true, true_and, and_false, false_and, or_true, true_or, or_false, false_or, not_true_eq_false, not_false_eq_true, Option.map_some, J_ltT, J_ltF, J_leT, J_leF, J_eqT, J_eqF, J_ntT, J_ntF, E_Mod_trap hW, q_isPage hW, q_within hW, H.get, c3.1, c3.2]
        · have := r6 y' x' b1 b2 b3 b4
          rw [qm] at this
          exact this
      · rw [if_neg c3]
        by_cases c4 : S 81 p.toNat = 1
        · have c5 : S 82 p.toNat = 1 := by omega
          simp (disch := omega) only [↓reduceIte, S0, S1, J_lt, J_le, J_eq, J_ldI, J_ldI3, J_ldB, J_ldL, J_ldR, J_stI, J_stB, J_stL, J_dv, j_gne, C0, CM, CP, CR, CJ, CS, CL, and_self, and_true, true_and, and_false, false_and, or_true, true_or, or_false, false_or, not_true_eq_false, not_false_eq_true, Option.map_some, J_ltT, J_ltF, J_leT, J_leF, J_eqT, J_eqF, J_ntT, J_ntF, E_Mod_trap hW, q_isPage hW, q_within hW, H.get, c4, c5, E_Mod_fail hW, j_ss, jup_jup]
        · have c5 : S 81 p.toNat = 0 := by omega
          simp (disch := omega) only [↓reduceIte, S0, S1, J_lt, J_le, J_eq, J_ldI, J_ldI3, J_ldB, J_ldL, J_ldR, J_stI, J_stB, J_stL, J_dv, j_gne, C0, CM, CP, CR, CJ, CS, CL, and_self, and_true, true_and, and_false, false_and, or_true, true_or, or_false, false_or, not_true_eq_false, not_false_eq_true, Option.map_some, J_ltT, J_ltF, J_leT, J_leF, J_eqT, J_eqF, J_ntT, J_ntF, E_Mod_trap hW, q_isPage hW, q_within hW, H.get, c5, E_Mod_fail hW, j_ss, jup_jup]
    · rw [if_neg c2]
      simp (disch := omega) only [↓reduceIte, S0, S1, J_lt, J_le, J_eq, J_ldI, J_ldI3, J_ldB, J_ldL, J_ldR, J_stI, J_stB, J_stL, J_dv, j_gne, C0, CM, CP, CR, CJ, CS, CL, and_self, and_true, true_and, and_false, false_and, or_true, true_or, or_false, false_or, not_true_eq_false, not_false_eq_true, Option.map_some, J_ltT, J_ltF, J_leT, J_leF, J_eqT, J_eqF, J_ntT, J_ntF, E_Mod_trap hW, q_isPage hW, q_within hW, H.get, c2, E_Mod_fail hW, j_ss, jup_jup]
  · rw [if_neg c1]
    simp (disch := omega) only [↓reduceIte, S0, S1, J_lt, J_le, J_eq, J_ldI, J_ldI3, J_ldB, J_ldL, J_ldR, J_stI, J_stB, J_stL, J_dv, j_gne, C0, CM, CP, CR, CJ, CS, CL, and_self, and_true, true_and, and_false, false_and, or_true, true_or, or_false, false_or, not_true_eq_false, not_false_eq_true, Option.map_some, E_Mod_trap hW, q_isPage hW, show ¬ (0 ≤ p ∧ p ≤ 3) by omega, H.get, E_Mod_fail hW, j_ss, jup_jup]
end RA
