/-! the reference's list: the number of a heart, and a new one -/
section QHS
variable {V : Nat → Value} {W : xWt} {N : Nat} {T : Nat → Nat → Int64} {S : Nat → Nat → Int}
theorem q_hnL (hW : xFix V W) {h : xH} (H : HP N h S T) {ink : Int} {m : Nat} (hi : 0 ≤ ink ∧ ink < 8) (hm : S 92 ink.toNat = m) (h4 : m ≤ 400) (hX : ∀ k, k < m → j32 (S 93 (400 * ink.toNat + k)) ∧ j32 (S 94 (400 * ink.toNat + k))) (hp : j32 (S 78 19) ∧ j32 (S 78 20)) :
    ∀ (r k : Nat), k + r = m → W m_Mod_heartNumber (4, [some (.ref (N + 78)), some (.int (Int32.ofInt ink)), some (.int (Int32.ofInt (hN (fun k => S 93 (400 * ink.toNat + k)) (fun k => S 94 (400 * ink.toNat + k)) (S 78 19) (S 78 20) k))), some (.int (Int32.ofInt ((k : Int))))], []) h = some (.inl (some (jI (hN (fun k => S 93 (400 * ink.toNat + k)) (fun k => S 94 (400 * ink.toNat + k)) (S 78 19) (S 78 20) m))), h) := by
  intro r
  induction r with
  | zero =>
    intro k hk
    have : k = m := by omega
    subst this
    rw [L_Mod_heartNumber_4 hW]
    simp (disch := omega) only [↓reduceIte, S0, S1, J_lt, J_le, J_eq, J_ldI, J_ldI3, J_ldB, J_ldL, J_ldR, J_stI, J_stB, J_stL, J_dv, j_gne, C0, CM, CP, CR, CJ, CS, CL, and_self, and_true, true_and, and_false, false_and, or_true, true_or, or_false, false_or, not_true_eq_false, not_false_eq_true, Option.map_some, J_ltT, J_ltF, J_leT, J_leF, J_eqT, J_eqF, J_ntT, J_ntF, E_Mod_heartNumber hW, H.get, hm]
  | succ r ih =>
    intro k hk
    have ih1 := ih (k + 1) (by omega)
    have e : (400 * ink + (k : Int)).toNat = 400 * ink.toNat + k := by omega
    obtain ⟨x1, x2⟩ := hX k (by omega)
    rw [L_Mod_heartNumber_4 hW, ← ih1]
    simp only [hN]
    rw [show (((k + 1 : Nat)) : Int) = (k : Int) + 1 from rfl]
    by_cases c1 : S 93 (400 * ink.toNat + k) = S 78 19
    · by_cases c2 : S 94 (400 * ink.toNat + k) = S 78 20
      · rw [if_pos ⟨c1, c2⟩]
        simp (disch := omega) only [↓reduceIte, S0, S1, J_lt, J_le, J_eq, J_ldI, J_ldI3, J_ldB, J_ldL, J_ldR, J_stI, J_stB, J_stL, J_dv, j_gne, C0, CM, CP, CR, CJ, CS, CL, and_self, and_true, true_and, and_false, false_and, or_true, true_or, or_false, false_or, not_true_eq_false, not_false_eq_true, Option.map_some, J_ltT, J_ltF, J_leT, J_leF, J_eqT, J_eqF, J_ntT, J_ntF, E_Mod_heartNumber hW, H.get, hm, e]
      · rw [if_neg (fun q => c2 q.2)]
        simp (disch := omega) only [↓reduceIte, S0, S1, J_lt, J_le, J_eq, J_ldI, J_ldI3, J_ldB, J_ldL, J_ldR, J_stI, J_stB, J_stL, J_dv, j_gne, C0, CM, CP, CR, CJ, CS, CL, and_self, and_true, true_and, and_false, false_and, or_true, true_or, or_false, false_or, not_true_eq_false, not_false_eq_true, Option.map_some, J_ltT, J_ltF, J_leT, J_leF, J_eqT, J_eqF, J_ntT, J_ntF, E_Mod_heartNumber hW, H.get, hm, e]
    · rw [if_neg (fun q => c1 q.1)]
      simp (disch := omega) only [↓reduceIte, S0, S1, J_lt, J_le, J_eq, J_ldI, J_ldI3, J_ldB, J_ldL, J_ldR, J_stI, J_stB, J_stL, J_dv, j_gne, C0, CM, CP, CR, CJ, CS, CL, and_self, and_true, true_and, and_false, false_and, or_true, true_or, or_false, false_or, not_true_eq_false, not_false_eq_true, Option.map_some, J_ltT, J_ltF, J_leT, J_leF, J_eqT, J_eqF, J_ntT, J_ntF, E_Mod_heartNumber hW, H.get, hm, e]
theorem q_heartNumber (hW : xFix V W) {h : xH} (H : HP N h S T) {ink : Int} {m : Nat} (hi : 0 ≤ ink ∧ ink < 8) (hm : S 92 ink.toNat = m) (h4 : m ≤ 400) (hX : ∀ k, k < m → j32 (S 93 (400 * ink.toNat + k)) ∧ j32 (S 94 (400 * ink.toNat + k))) (hp : j32 (S 78 19) ∧ j32 (S 78 20)) :
    W m_Mod_heartNumber (0, [some (.ref (N + 78)), some (.int (Int32.ofInt ink)), none, none], []) h = some (.inl (some (jI (hN (fun k => S 93 (400 * ink.toNat + k)) (fun k => S 94 (400 * ink.toNat + k)) (S 78 19) (S 78 20) m))), h) := by
  have := q_hnL hW H hi hm h4 hX hp m 0 (by omega)
  rw [← this]
  simp (disch := omega) only [↓reduceIte, S0, S1, J_lt, J_le, J_eq, J_ldI, J_ldI3, J_ldB, J_ldL, J_ldR, J_stI, J_stB, J_stL, J_dv, j_gne, C0, CM, CP, CR, CJ, CS, CL, and_self, and_true, true_and, and_false, false_and, or_true, true_or, or_false, false_or, not_true_eq_false, not_false_eq_true, Option.map_some, E_Mod_heartNumber hW]
  rfl
def aS (S : Nat → Nat → Int) (F X Y : Nat → Int) : Nat → Nat → Int := fun k => if k = 92 then F else if k = 93 then X else if k = 94 then Y else S k
theorem aS_ne (S : Nat → Nat → Int) (F X Y : Nat → Int) {k : Nat} (h : k ≠ 92 ∧ k ≠ 93 ∧ k ≠ 94) : aS S F X Y k = S k := by unfold aS; rw [if_neg h.1, if_neg h.2.1, if_neg h.2.2]
theorem aS_92 (S : Nat → Nat → Int) (F X Y : Nat → Int) : aS S F X Y 92 = F := rfl
theorem aS_93 (S : Nat → Nat → Int) (F X Y : Nat → Int) : aS S F X Y 93 = X := rfl
theorem aS_94 (S : Nat → Nat → Int) (F X Y : Nat → Int) : aS S F X Y 94 = Y := rfl
theorem aS_p93 (S : Nat → Nat → Int) (F X Y Z : Nat → Int) : sup (aS S F X Y) 93 Z = aS S F Z Y := by
  funext k; unfold sup aS; by_cases h : k = 93
  · subst h; rfl
  · simp only [if_neg h]
theorem aS_p94 (S : Nat → Nat → Int) (F X Y Z : Nat → Int) : sup (aS S F X Y) 94 Z = aS S F X Z := by
  funext k; unfold sup aS; by_cases h : k = 94
  · subst h; rfl
  · simp only [if_neg h]
theorem aS_0 (S : Nat → Nat → Int) (F : Nat → Int) : sup S 92 F = aS S F (S 93) (S 94) := by
  funext k; unfold sup aS; by_cases h : k = 92
  · rw [if_pos h, if_pos h]
  · rw [if_neg h, if_neg h]; split
    · rename_i e; rw [e]
    · split
      · rename_i e; rw [e]
      · rfl
/-- the list after k of its hearts have been moved up -/
def AM (S : Nat → Nat → Int) (a b s : Int) (o m k : Nat) (X Y : Nat → Int) : Prop := k ≤ m ∧ (∀ j, j < k → X (o + j) = S 93 (o + j) ∧ Y (o + j) = S 94 (o + j)) ∧ (∀ j, k ≤ j → j < m → X (o + (j + 1)) = S 93 (o + j) ∧ Y (o + (j + 1)) = S 94 (o + j) ∧ ky a b s (S 78 19) (S 78 20) < ky a b s (S 93 (o + j)) (S 94 (o + j))) ∧ ∀ j, j < o ∨ o + m < j → X j = S 93 j ∧ Y j = S 94 j
theorem q_ahEnd (hW : xFix V W) {ink more : Int} {F X Y : Nat → Int} {h : xH} {k : Nat} (H : HP N h (aS S F X Y) T) (hi : 0 ≤ ink ∧ ink < 8) (hk : k < 400) :
    ∃ h', W m_Mod_addHeart (131, [some (.ref (N + 78)), some (.int (Int32.ofInt ink)), some (.int (Int32.ofInt ((k : Int)))), some (.int (Int32.ofInt more))], []) h = some (.inl none, h') ∧ HP N h' (aS S F (jup X (400 * ink.toNat + k) (S 78 19)) (jup Y (400 * ink.toNat + k) (S 78 20))) T ∧ h'.2 = h.2 := by
  have e : (400 * ink + (k : Int)).toNat = 400 * ink.toNat + k := by omega
  have H1 := H.put (k := 93) (by omega) (jup X (400 * ink.toNat + k) (S 78 19)) rfl
  rw [aS_p93] at H1
  have H2 := H1.put (k := 94) (by omega) (jup Y (400 * ink.toNat + k) (S 78 20)) rfl
  rw [aS_p94] at H2
  refine ⟨_, ?_, H2, rfl⟩
  simp (disch := omega) only [↓reduceIte, S0, S1, J_lt, J_le, J_eq, J_ldI, J_ldI3, J_ldB, J_ldL, J_ldR, J_stI, J_stB, J_stL, J_dv, j_gne, C0, CM, CP, CR, CJ, CS, CL, and_self, and_true, true_and, and_false, false_and, or_true, true_or, or_false, false_or, not_true_eq_false, not_false_eq_true, Option.map_some, J_ltT, J_ltF, J_leT, J_leF, J_eqT, J_eqF, J_ntT, J_ntF, E_Mod_addHeart hW, H.get, aS_ne, aS_93, aS_94, e]
theorem q_ahL (hW : xFix V W) {ink a b s : Int} {m : Nat} {F : Nat → Int} (hi : 0 ≤ ink ∧ ink < 8) (ea : S 88 ink.toNat = a) (eb : S 89 ink.toNat = b) (es : S 90 ink.toNat = s) (ha : -20 ≤ a ∧ a ≤ 20) (hb : -20 ≤ b ∧ b ≤ 20) (hs : 0 ≤ s ∧ s < 3) (hn : a * a + b * b ≤ 400) (h4 : m < 400)
    (L : HL a b s (fun k => S 93 (400 * ink.toNat + k)) (fun k => S 94 (400 * ink.toNat + k)) m) (hh : hrt a b s (S 78 19) (S 78 20)) (nw : ∀ k, k < m → ¬ (S 93 (400 * ink.toNat + k) = S 78 19 ∧ S 94 (400 * ink.toNat + k) = S 78 20)) :
    ∀ (k : Nat) (X Y : Nat → Int) (h : xH), HP N h (aS S F X Y) T → AM S a b s (400 * ink.toNat) m k X Y →
    ∃ (h' : xH) (X' Y' : Nat → Int) (k' : Nat), W m_Mod_addHeart (19, [some (.ref (N + 78)), some (.int (Int32.ofInt ink)), some (.int (Int32.ofInt ((k : Int)))), some (.int (Int32.ofInt 1))], []) h = some (.inl none, h') ∧ HP N h' (aS S F (jup X' (400 * ink.toNat + k') (S 78 19)) (jup Y' (400 * ink.toNat + k') (S 78 20))) T ∧ h'.2 = h.2 ∧ AM S a b s (400 * ink.toNat) m k' X' Y' ∧ ∀ j, j < k' → ky a b s (S 93 (400 * ink.toNat + j)) (S 94 (400 * ink.toNat + j)) < ky a b s (S 78 19) (S 78 20) := by
  intro k
  induction k with
  | zero =>
    intro X Y h H A
    obtain ⟨h', z1, z2, z3⟩ := q_ahEnd (more := 1) (k := 0) hW H hi (by omega)
    refine ⟨h', X, Y, 0, ?_, z2, z3, A, fun j hj => by omega⟩
    rw [L_Mod_addHeart_19 hW, ← z1]
    rw [show ((0 : Nat) : Int) = 0 from rfl]
    simp (disch := omega) only [↓reduceIte, S0, S1, J_lt, J_le, J_eq, J_ldI, J_ldI3, J_ldB, J_ldL, J_ldR, J_stI, J_stB, J_stL, J_dv, j_gne, C0, CM, CP, CR, CJ, CS, CL, and_self, and_true, true_and, and_false, false_and, or_true, true_or, or_false, false_or, not_true_eq_false, not_false_eq_true, Option.map_some, J_ltT, J_ltF, J_leT, J_leF, J_eqT, J_eqF, J_ntT, J_ntF]
  | succ k ih =>
    intro X Y h H A
    obtain ⟨a1, a2, a3, a4⟩ := A
    obtain ⟨w1, w2⟩ := a2 k (by omega)
    have f1 := hrt_far hn hh
    have f2 := hrt_far hn (L.1 k (by omega))
    simp only [] at f2
    have bf := q_isBefore hW H (x := S 78 19) (y := S 78 20) (u := S 93 (400 * ink.toNat + k)) (v := S 94 (400 * ink.toNat + k)) hi (by rw [aS_ne _ _ _ _ (by omega)]; exact ea) (by rw [aS_ne _ _ _ _ (by omega)]; exact eb) (by rw [aS_ne _ _ _ _ (by omega)]; exact es) ha hb hs (by omega) (by omega)
    have e : (400 * ink + (k : Int) + 1 - 1).toNat = 400 * ink.toNat + k := by omega
    have e' : (400 * ink + ((k : Int) + 1) - 1).toNat = 400 * ink.toNat + k := by omega
    have e2 : (400 * ink + ((k : Int) + 1)).toNat = 400 * ink.toNat + (k + 1) := by omega
    have e3 : (k : Int) + 1 + -1 = k := by omega
    rw [show (((k + 1 : Nat)) : Int) = (k : Int) + 1 from rfl]
    by_cases lt : ky a b s (S 78 19) (S 78 20) < ky a b s (S 93 (400 * ink.toNat + k)) (S 94 (400 * ink.toNat + k))
    · rw [if_pos lt] at bf
      have H1 := H.put (k := 93) (by omega) (jup X (400 * ink.toNat + (k + 1)) (S 93 (400 * ink.toNat + k))) rfl
      rw [aS_p93] at H1
      have H2 := H1.put (k := 94) (by omega) (jup Y (400 * ink.toNat + (k + 1)) (S 94 (400 * ink.toNat + k))) rfl
      rw [aS_p94] at H2
      obtain ⟨h', X', Y', k', z1, z2, z3, z4, z5⟩ := ih _ _ _ H2 ⟨by omega, fun j hj => by
          rw [jup_ne _ _ (by omega), jup_ne _ _ (by omega)]; exact a2 j (by omega), fun j j1 j2 => by
          by_cases ej : j = k
          · subst ej; rw [jup_same, jup_same]; exact ⟨rfl, rfl, lt⟩
          · rw [jup_ne _ _ (by omega), jup_ne _ _ (by omega)]; exact a3 j (by omega) j2, fun j hj => by
          rw [jup_ne _ _ (by omega), jup_ne _ _ (by omega)]; exact a4 j hj⟩
      refine ⟨h', X', Y', k', ?_, z2, z3, z4, z5⟩
      rw [L_Mod_addHeart_19 hW, ← z1]
      simp (disch := omega) only [↓reduceIte, S0, S1, J_lt, J_le, J_eq, J_ldI, J_ldI3, J_ldB, J_ldL, J_ldR, J_stI, J_stB, J_stL, J_dv, j_gne, C0, CM, CP, CR, CJ, CS, CL, and_self, and_true, true_and, and_false, false_and, or_true, true_or, or_false, false_or, not_true_eq_false, not_false_eq_true, Option.map_some, J_ltT, J_ltF, J_leT, J_leF, J_eqT, J_eqF, J_ntT, J_ntF, E_Mod_addHeart hW, H.get, H1.get, aS_ne, aS_93, aS_94, e, e', e2, e3, w1, w2, bf]
    · rw [if_neg lt] at bf
      obtain ⟨h', z1, z2, z3⟩ := q_ahEnd (more := 0) (k := k + 1) hW H hi (by omega)
      refine ⟨h', X, Y, k + 1, ?_, z2, z3, ⟨a1, a2, a3, a4⟩, fun j hj => ?_⟩
      · rw [← z1, show (((k + 1 : Nat)) : Int) = (k : Int) + 1 from rfl]
        rw [L_Mod_addHeart_19 hW]
        simp (disch := omega) only [↓reduceIte, S0, S1, J_lt, J_le, J_eq, J_ldI, J_ldI3, J_ldB, J_ldL, J_ldR, J_stI, J_stB, J_stL, J_dv, j_gne, C0, CM, CP, CR, CJ, CS, CL, and_self, and_true, true_and, and_false, false_and, or_true, true_or, or_false, false_or, not_true_eq_false, not_false_eq_true, Option.map_some, J_ltT, J_ltF, J_leT, J_leF, J_eqT, J_eqF, J_ntT, J_ntF, E_Mod_addHeart hW, H.get, aS_ne, aS_93, aS_94, e, e', e2, w1, w2, bf, L_Mod_addHeart_19 hW]
      · have ne : ky a b s (S 93 (400 * ink.toNat + k)) (S 94 (400 * ink.toNat + k)) ≠ ky a b s (S 78 19) (S 78 20) := by
          intro c
          have := ky_inj (a := a) (b := b) (s := s) (by omega) (by omega) c
          exact nw k (by omega) this
        rcases Nat.lt_or_ge j k with c | c
        · have := L.2 j k c (by omega)
          simp only [] at this
          omega
        · rw [show j = k by omega]; omega
end QHS
