/-! a step across, a step down -/
def acr (G : Nat → Int64) (q : Nat) : Int64 := ((if 0 < q % 48 then G (q - 1) else 0) ||| G q) ||| (if q % 48 < 47 then G (q + 1) else 0)
def dwn (G : Nat → Int64) (q : Nat) : Int64 := ((if 48 ≤ q then G (q - 48) else 0) ||| G q) ||| (if q < 3024 then G (q + 48) else 0)
theorem jupL_same (F : Nat → Int64) (i : Nat) (v : Int64) : jupL F i v i = v := by simp [jupL]
theorem jupL_ne (F : Nat → Int64) {i k : Nat} (v : Int64) (h : k ≠ i) : jupL F i v k = F k := by simp [jupL, h]
section WD
variable {V : Nat → Value} {W : xWt} {N : Nat} {S : Nat → Nat → Int}
theorem p_across (hW : xFix V W) : ∀ (n : Nat) (k : Nat) (h : xH) (T : Nat → Nat → Int64) (u2 u3 u5 : Option Value), HP N h S T → k + n = 3072 →
    ∃ h' T', W m_Spr_widenAcross (2, [some (.ref (N + 24)), some (.int (Int32.ofInt ((k : Int)))), u2, u3, none, u5, none], []) h = some (.inl none, h') ∧ HP N h' S T' ∧ h'.2 = h.2 ∧ (∀ q, q < N → h'.1 q = h.1 q) ∧ (∀ j, j ≠ 29 → T' j = T j) ∧ (∀ q, k ≤ q → q < 3072 → T' 29 q = acr (T 28) q) ∧ (∀ q, q < k → T' 29 q = T 29 q) := by
  intro n
  induction n with
  | zero =>
    intro k h T u2 u3 u5 H hk
    refine ⟨h, T, ?_, H, rfl, fun _ _ => rfl, fun _ _ => rfl, fun q a b => by omega, fun _ _ => rfl⟩
    rw [L_Spr_widenAcross_2 hW]
    simp (disch := omega) only [↓reduceIte, S0, S1, J_lt, J_le, J_eq, J_ldI, J_ldI3, J_ldB, J_ldL, J_ldR, J_stI, J_stB, J_stL, J_dv, j_gne, C0, CM, CP, CR, CJ, CS, CL, and_self, and_true, true_and, and_false, false_and, or_true, true_or, or_false, false_or, not_true_eq_false, not_false_eq_true, Option.map_some, J_ltT, J_ltF, J_leT, J_leF, J_eqT, J_eqF, J_ntT, J_ntF, E_Spr_widenAcross hW]
  | succ n ih =>
    intro k h T u2 u3 u5 H hk
    have H1 := H.putL (k := 29) (by omega) (jupL (T 29) k (acr (T 28) k)) (e := jL 3072 (jupL (T 29) k (acr (T 28) k))) rfl
    obtain ⟨h', T', r1, r2, r3, r4, r5, r6, r7⟩ := ih (k + 1) _ _ (some (.int (Int32.ofInt ((k : Int) % 48)))) (some (.long (if 0 < k % 48 then T 28 (k - 1) else 0))) (some (.long (if k % 48 < 47 then T 28 (k + 1) else 0))) H1 (by omega)
    rw [show (((k + 1 : Nat) : Int)) = (k : Int) + 1 by omega] at r1
    rw [supL_ne _ _ (by decide)] at r6
    rw [supL_same] at r7
    refine ⟨h', T', ?_, r2, r3.trans rfl, fun q hq => by rw [r4 q hq, j_gne _ _ (by omega)], fun j hj => by rw [r5 j hj, supL_ne _ _ hj], fun q a b => ?_, fun q a => ?_⟩
    · rw [L_Spr_widenAcross_2 hW, ← r1]
      have em : (k : Int) - (k : Int) / 48 * 48 = (k : Int) % 48 := by omega
      have e1 : ((k : Int) - 1).toNat = k - 1 := by omega
      have e2 : ((k : Int) + 1).toNat = k + 1 := by omega
      unfold acr
      by_cases z1 : 0 < k % 48
      · by_cases z2 : k % 48 < 47
        · simp (disch := omega) only [↓reduceIte, S0, S1, J_lt, J_le, J_eq, J_ldI, J_ldI3, J_ldB, J_ldL, J_ldR, J_stI, J_stB, J_stL, J_dv, j_gne, C0, CM, CP, CR, CJ, CS, CL, and_self, and_true, true_and, and_false, false_and, or_true, true_or, or_false, false_or, not_true_eq_false, not_false_eq_true, Option.map_some, J_ltT, J_ltF, J_leT, J_leF, J_eqT, J_eqF, J_ntT, J_ntF, E_Spr_widenAcross hW, H.get, J_div, em, Int.toNat_natCast, e1, e2, z1, z2]
        · simp (disch := omega) only [↓reduceIte, S0, S1, J_lt, J_le, J_eq, J_ldI, J_ldI3, J_ldB, J_ldL, J_ldR, J_stI, J_stB, J_stL, J_dv, j_gne, C0, CM, CP, CR, CJ, CS, CL, and_self, and_true, true_and, and_false, false_and, or_true, true_or, or_false, false_or, not_true_eq_false, not_false_eq_true, Option.map_some, J_ltT, J_ltF, J_leT, J_leF, J_eqT, J_eqF, J_ntT, J_ntF, E_Spr_widenAcross hW, H.get, J_div, em, Int.toNat_natCast, e1, e2, z1, z2]
      · by_cases z2 : k % 48 < 47
        · simp (disch := omega) only [↓reduceIte, S0, S1, J_lt, J_le, J_eq, J_ldI, J_ldI3, J_ldB, J_ldL, J_ldR, J_stI, J_stB, J_stL, J_dv, j_gne, C0, CM, CP, CR, CJ, CS, CL, and_self, and_true, true_and, and_false, false_and, or_true, true_or, or_false, false_or, not_true_eq_false, not_false_eq_true, Option.map_some, J_ltT, J_ltF, J_leT, J_leF, J_eqT, J_eqF, J_ntT, J_ntF, E_Spr_widenAcross hW, H.get, J_div, em, Int.toNat_natCast, e1, e2, z1, z2]
        · exfalso; omega
    · by_cases z : q = k
      · subst z
        rw [r7 q (by omega), jupL_same]
      · exact r6 q (by omega) b
    · rw [r7 q (by omega), jupL_ne _ _ (by omega)]
theorem p_down (hW : xFix V W) : ∀ (n : Nat) (k : Nat) (h : xH) (T : Nat → Nat → Int64) (u2 u4 : Option Value), HP N h S T → k + n = 3072 →
    ∃ h' T', W m_Spr_widenDown (2, [some (.ref (N + 24)), some (.int (Int32.ofInt ((k : Int)))), u2, none, u4, none], []) h = some (.inl none, h') ∧ HP N h' S T' ∧ h'.2 = h.2 ∧ (∀ q, q < N → h'.1 q = h.1 q) ∧ (∀ j, j ≠ 28 → T' j = T j) ∧ (∀ q, k ≤ q → q < 3072 → T' 28 q = dwn (T 29) q) ∧ (∀ q, q < k → T' 28 q = T 28 q) := by
  intro n
  induction n with
  | zero =>
    intro k h T u2 u4 H hk
    refine ⟨h, T, ?_, H, rfl, fun _ _ => rfl, fun _ _ => rfl, fun q a b => by omega, fun _ _ => rfl⟩
    rw [L_Spr_widenDown_2 hW]
    simp (disch := omega) only [↓reduceIte, S0, S1, J_lt, J_le, J_eq, J_ldI, J_ldI3, J_ldB, J_ldL, J_ldR, J_stI, J_stB, J_stL, J_dv, j_gne, C0, CM, CP, CR, CJ, CS, CL, and_self, and_true, true_and, and_false, false_and, or_true, true_or, or_false, false_or, not_true_eq_false, not_false_eq_true, Option.map_some, J_ltT, J_ltF, J_leT, J_leF, J_eqT, J_eqF, J_ntT, J_ntF, E_Spr_widenDown hW]
  | succ n ih =>
    intro k h T u2 u4 H hk
    have H1 := H.putL (k := 28) (by omega) (jupL (T 28) k (dwn (T 29) k)) (e := jL 3072 (jupL (T 28) k (dwn (T 29) k))) rfl
    obtain ⟨h', T', r1, r2, r3, r4, r5, r6, r7⟩ := ih (k + 1) _ _ (some (.long (if 48 ≤ k then T 29 (k - 48) else 0))) (some (.long (if k < 3024 then T 29 (k + 48) else 0))) H1 (by omega)
    rw [show (((k + 1 : Nat) : Int)) = (k : Int) + 1 by omega] at r1
    rw [supL_ne _ _ (by decide)] at r6
    rw [supL_same] at r7
    refine ⟨h', T', ?_, r2, r3.trans rfl, fun q hq => by rw [r4 q hq, j_gne _ _ (by omega)], fun j hj => by rw [r5 j hj, supL_ne _ _ hj], fun q a b => ?_, fun q a => ?_⟩
    · rw [L_Spr_widenDown_2 hW, ← r1]
      have e1 : ((k : Int) - 48).toNat = k - 48 := by omega
      have e2 : ((k : Int) + 48).toNat = k + 48 := by omega
      unfold dwn
      by_cases z1 : 48 ≤ k
      · by_cases z2 : k < 3024
        · simp (disch := omega) only [↓reduceIte, S0, S1, J_lt, J_le, J_eq, J_ldI, J_ldI3, J_ldB, J_ldL, J_ldR, J_stI, J_stB, J_stL, J_dv, j_gne, C0, CM, CP, CR, CJ, CS, CL, and_self, and_true, true_and, and_false, false_and, or_true, true_or, or_false, false_or, not_true_eq_false, not_false_eq_true, Option.map_some, J_ltT, J_ltF, J_leT, J_leF, J_eqT, J_eqF, J_ntT, J_ntF, E_Spr_widenDown hW, H.get, Int.toNat_natCast, e1, e2, z1, z2]
        · simp (disch := omega) only [↓reduceIte, S0, S1, J_lt, J_le, J_eq, J_ldI, J_ldI3, J_ldB, J_ldL, J_ldR, J_stI, J_stB, J_stL, J_dv, j_gne, C0, CM, CP, CR, CJ, CS, CL, and_self, and_true, true_and, and_false, false_and, or_true, true_or, or_false, false_or, not_true_eq_false, not_false_eq_true, Option.map_some, J_ltT, J_ltF, J_leT, J_leF, J_eqT, J_eqF, J_ntT, J_ntF, E_Spr_widenDown hW, H.get, Int.toNat_natCast, e1, e2, z1, z2]
      · by_cases z2 : k < 3024
        · simp (disch := omega) only [↓reduceIte, S0, S1, J_lt, J_le, J_eq, J_ldI, J_ldI3, J_ldB, J_ldL, J_ldR, J_stI, J_stB, J_stL, J_dv, j_gne, C0, CM, CP, CR, CJ, CS, CL, and_self, and_true, true_and, and_false, false_and, or_true, true_or, or_false, false_or, not_true_eq_false, not_false_eq_true, Option.map_some, J_ltT, J_ltF, J_leT, J_leF, J_eqT, J_eqF, J_ntT, J_ntF, E_Spr_widenDown hW, H.get, Int.toNat_natCast, e1, e2, z1, z2]
        · exfalso; omega
    · by_cases z : q = k
      · subst z
        rw [r7 q (by omega), jupL_same]
      · exact r6 q (by omega) b
    · rw [r7 q (by omega), jupL_ne _ _ (by omega)]
theorem p_shyLoop (hW : xFix V W) {T : Nat → Nat → Int64} {h : xH} (H : HP N h S T) {K : Nat → Nat} {M : Nat → Int} (hK : ∀ c, c < 64 → S 25 c = (K c : Nat) ∧ K c < 256) (hM : ∀ c, c < 64 → S 26 c = M c ∧ 0 ≤ M c ∧ M c < 1000000) {c : Nat} (hc : c < 64) : ∀ (n k : Nat) (x : Int64), k + n = 64 →
    ∃ x', W m_Spr_lighterShyOf (5, [some (.ref (N + 24)), some (.int (Int32.ofInt ((c : Int)))), some (.long x), none, some (.int (Int32.ofInt ((k : Int))))], []) h = some (.inl (some (.long x')), h) ∧ ∀ i, (uN x').testBit i = true ↔ ((uN x).testBit i = true ∨ (k ≤ i ∧ i < 64 ∧ shyP K c i ∧ litP M i c)) := by
  intro n
  induction n with
  | zero =>
    intro k x hk
    refine ⟨x, ?_, fun i => ⟨Or.inl, fun q => q.elim id (fun r => by omega)⟩⟩
    rw [L_Spr_lighterShyOf_5 hW]
    simp (disch := omega) only [↓reduceIte, S0, S1, J_lt, J_le, J_eq, J_ldI, J_ldI3, J_ldB, J_ldL, J_ldR, J_stI, J_stB, J_stL, J_dv, j_gne, C0, CM, CP, CR, CJ, CS, CL, and_self, and_true, true_and, and_false, false_and, or_true, true_or, or_false, false_or, not_true_eq_false, not_false_eq_true, Option.map_some, J_ltT, J_ltF, J_leT, J_leF, J_eqT, J_eqF, J_ntT, J_ntF, E_Spr_lighterShyOf hW]
  | succ n ih =>
    intro k x hk
    have d1 : Decidable (shyP K c k) := Classical.propDecidable _
    have d2 : Decidable (litP M k c) := Classical.propDecidable _
    have s1 := p_isShy hW H hK hc (show k < 64 by omega) d1
    have s2 := p_isLighter hW H hM (show k < 64 by omega) hc d2
    by_cases z : shyP K c k ∧ litP M k c
    · rw [if_pos z.1] at s1
      rw [if_pos z.2] at s2
      obtain ⟨x', r1, r2⟩ := ih (k + 1) (x ||| ((1 : Int64) <<< (Int32.toInt64 (Int32.ofInt (k : Int)) &&& 63))) (by omega)
      rw [show (((k + 1 : Nat) : Int)) = (k : Int) + 1 by omega] at r1
      refine ⟨x', ?_, fun i => ?_⟩
      · rw [L_Spr_lighterShyOf_5 hW, ← r1]
        simp (disch := omega) only [↓reduceIte, S0, S1, J_lt, J_le, J_eq, J_ldI, J_ldI3, J_ldB, J_ldL, J_ldR, J_stI, J_stB, J_stL, J_dv, j_gne, C0, CM, CP, CR, CJ, CS, CL, and_self, and_true, true_and, and_false, false_and, or_true, true_or, or_false, false_or, not_true_eq_false, not_false_eq_true, Option.map_some, J_ltT, J_ltF, J_leT, J_leF, J_eqT, J_eqF, J_ntT, J_ntF, E_Spr_lighterShyOf hW, H.get, s1, s2]
      · rw [r2 i, uN_or, Nat.testBit_or, uN_bit (by omega) (by omega), Nat.testBit_two_pow, Bool.or_eq_true, decide_eq_true_eq, Int.toNat_natCast]
        constructor
        · rintro ((q | q) | q)
          · exact Or.inl q
          · exact Or.inr ⟨by omega, by omega, q ▸ z.1, q ▸ z.2⟩
          · exact Or.inr ⟨by omega, q.2⟩
        · rintro (q | q)
          · exact Or.inl (Or.inl q)
          · by_cases e : k = i
            · exact Or.inl (Or.inr e)
            · exact Or.inr ⟨by omega, q.2⟩
    · obtain ⟨x', r1, r2⟩ := ih (k + 1) x (by omega)
      rw [show (((k + 1 : Nat) : Int)) = (k : Int) + 1 by omega] at r1
      refine ⟨x', ?_, fun i => ?_⟩
      · rw [L_Spr_lighterShyOf_5 hW, ← r1]
        by_cases z1 : shyP K c k
        · rw [if_pos z1] at s1
          rw [if_neg (fun q => z ⟨z1, q⟩)] at s2
          simp (disch := omega) only [↓reduceIte, S0, S1, J_lt, J_le, J_eq, J_ldI, J_ldI3, J_ldB, J_ldL, J_ldR, J_stI, J_stB, J_stL, J_dv, j_gne, C0, CM, CP, CR, CJ, CS, CL, and_self, and_true, true_and, and_false, false_and, or_true, true_or, or_false, false_or, not_true_eq_false, not_false_eq_true, Option.map_some, J_ltT, J_ltF, J_leT, J_leF, J_eqT, J_eqF, J_ntT, J_ntF, E_Spr_lighterShyOf hW, H.get, s1, s2]
        · rw [if_neg z1] at s1
          simp (disch := omega) only [↓reduceIte, S0, S1, J_lt, J_le, J_eq, J_ldI, J_ldI3, J_ldB, J_ldL, J_ldR, J_stI, J_stB, J_stL, J_dv, j_gne, C0, CM, CP, CR, CJ, CS, CL, and_self, and_true, true_and, and_false, false_and, or_true, true_or, or_false, false_or, not_true_eq_false, not_false_eq_true, Option.map_some, J_ltT, J_ltF, J_leT, J_leF, J_eqT, J_eqF, J_ntT, J_ntF, E_Spr_lighterShyOf hW, H.get, s1]
      · rw [r2 i]
        constructor
        · rintro (q | q)
          · exact Or.inl q
          · exact Or.inr ⟨by omega, q.2⟩
        · rintro (q | q)
          · exact Or.inl q
          · by_cases e : k = i
            · exact absurd (e ▸ q.2.2) z
            · exact Or.inr ⟨by omega, q.2⟩
end WD
