/-! one round of the law's loop -/
theorem lg_self (x : Int64) : lg_cmp x x = Int32.ofInt 0 := by
  unfold lg_cmp
  simp
def ITR (W : xWt) (N b a n : Nat) (F B : Nat → Int) (i : Int) (l : Option xR) (h : xH) : Prop := ∃ (h' : xH) (S' : Nat → Nat → Int) (T' : Nat → Nat → Int64) (x5' x6' : Option Value), l = W m_Law_law (23, [some (.ref b), some (.ref N), some (.ref (N + 78)), some (.ref (N + 101)), some (.int (Int32.ofInt (i + 7))), x5', x6'], []) h' ∧ HP N h' S' T' ∧ INV S' ∧ (h'.1 b = some (jA 3 n F) ∧ h'.1 a = some (jA 3 8 B)) ∧ (h'.2.1 ≤ h.2.1 + 1 ∧ h'.2.2 ≤ h.2.2 + 6)
section LAS
variable {V : Nat → Value} {W : xWt} {N b a n : Nat} {h : xH} {S : Nat → Nat → Int} {T : Nat → Nat → Int64} {F B : Nat → Int} {i : Int} {x5 x6 : Option Value}
theorem it_colour (hW : xFix V W) (hR : ∀ M f h r, W M f h = some r → xR0 h r.2) (H : HP N h S T) (Q : INV S) (bN : b < N) (aN : a < N) (hv : V 0 = .ref a) (hB : ∀ j, j < 8 → B j = B0 j) (hb : h.1 b = some (jA 3 n F)) (ha : h.1 a = some (jA 3 8 B)) (hF : ∀ k, j32 (F k)) (hn : n < 2147483648) (hi : 0 ≤ i ∧ i + 7 ≤ n) : ITR W N b a n F B i (W m_Law_law (120, [some (.ref b), some (.ref N), some (.ref (N + 78)), some (.ref (N + 101)), some (.int (Int32.ofInt i)), x5, x6], []) h) h := by
  obtain ⟨k, v, h1, h2, Sa, Ta, Sb, Tb, r1, H1, r2, H2, Q2, ⟨e0, e1, e3, e4⟩, sz1, sz2⟩ := o_colour hW H Q (hF (i + 1).toNat) (hF (i + 2).toNat) (hF (i + 3).toNat)
  have r2' : W m_Mod_colour (0, [some (.ref (N + 78)), some (.int (Int32.ofInt (F (i + 1).toNat))), some (.int (Int32.ofInt (F (i + 2).toNat))), some (.int (Int32.ofInt (F (i + 3).toNat))), none], []) h1 = some (.inl (some (jI v)), h2) := r2
  have hN := H.2
  have ro1 : xR0 h h1 := hR _ _ _ _ r1
  have ro2 : xR0 h1 h2 := hR _ _ _ _ r2'
  have b1 := ro1.1 b _ hb rfl (by omega)
  have b2 := ro2.1 b _ b1 rfl (by have := ro1.2; omega)
  have a1 := ro1.1 a _ ha rfl (by omega)
  have a2 := ro2.1 a _ a1 rfl (by have := ro1.2; omega)
  have th := q_thrown hW (H2.get (k := 78) (by omega))
  rw [e0] at th
  have szz : h2.2.1 ≤ h.2.1 + 1 ∧ h2.2.2 ≤ h.2.2 + 6 := by rw [sz2]; exact sz1
  by_cases k0 : k = 0
  · subst k0
    have o1 := e1 rfl
    refine ⟨h2, Sb, Tb, some (.int (Int32.ofInt 0)), some (.int (Int32.ofInt v)), ?_, H2, Q2, ⟨b2, a2⟩, szz⟩
    simp (disch := omega) only [↓reduceIte, S0, S1, J_lt, J_le, J_eq, J_ldI, J_ldI3, J_ldB, J_ldL, J_ldR, J_stI, J_stB, J_stL, J_dv, j_gne, C0, CM, CP, CR, CJ, CS, CL, and_self, and_true, true_and, and_false, false_and, or_true, true_or, or_false, false_or, not_true_eq_false, not_false_eq_true, Option.map_some, J_ltT, J_ltF, J_leT, J_leF, J_eqT, J_eqF, J_ntT, J_ntF, E_Law_law hW, E_Law_law_p1 hW, E_Law_law_p2 hW, E_Law_law_p3 hW, E_Law_law_p4 hW, E_Law_law_p5 hW, E_Law_law_p6 hW, hb, r1, b1, H1.get, r2', H2.get, th, Int.reduceToNat, o1, lg_self]
  · refine ⟨h2, Sb, Tb, some (.int (Int32.ofInt k)), some (.int (Int32.ofInt v)), ?_, H2, Q2, ⟨b2, a2⟩, szz⟩
    simp (disch := omega) only [↓reduceIte, S0, S1, J_lt, J_le, J_eq, J_ldI, J_ldI3, J_ldB, J_ldL, J_ldR, J_stI, J_stB, J_stL, J_dv, j_gne, C0, CM, CP, CR, CJ, CS, CL, and_self, and_true, true_and, and_false, false_and, or_true, true_or, or_false, false_or, not_true_eq_false, not_false_eq_true, Option.map_some, J_ltT, J_ltF, J_leT, J_leF, J_eqT, J_eqF, J_ntT, J_ntF, E_Law_law hW, E_Law_law_p1 hW, E_Law_law_p2 hW, E_Law_law_p3 hW, E_Law_law_p4 hW, E_Law_law_p5 hW, E_Law_law_p6 hW, hb, r1, b1, H1.get, r2', H2.get, th]
theorem it_box (hW : xFix V W) (hR : ∀ M f h r, W M f h = some r → xR0 h r.2) (H : HP N h S T) (Q : INV S) (bN : b < N) (aN : a < N) (hv : V 0 = .ref a) (hB : ∀ j, j < 8 → B j = B0 j) (hb : h.1 b = some (jA 3 n F)) (ha : h.1 a = some (jA 3 8 B)) (hF : ∀ k, j32 (F k)) (hn : n < 2147483648) (hi : 0 ≤ i ∧ i + 7 ≤ n) : ITR W N b a n F B i (W m_Law_law (200, [some (.ref b), some (.ref N), some (.ref (N + 78)), some (.ref (N + 101)), some (.int (Int32.ofInt i)), x5, x6], []) h) h := by
  obtain ⟨k, v, h1, h2, Sa, Ta, Sb, Tb, r1, H1, r2, H2, Q2, ⟨e0, e1, e3, e4⟩, sz1, sz2⟩ := o_box hW H Q (hF (i + 1).toNat) (hF (i + 2).toNat) (hF (i + 3).toNat) (hF (i + 4).toNat) (hF (i + 5).toNat) (hF (i + 6).toNat)
  have r2' : W m_Mod_box (0, [some (.ref (N + 78)), some (.int (Int32.ofInt (F (i + 1).toNat))), some (.int (Int32.ofInt (F (i + 2).toNat))), some (.int (Int32.ofInt (F (i + 3).toNat))), some (.int (Int32.ofInt (F (i + 4).toNat))), some (.int (Int32.ofInt (F (i + 5).toNat))), some (.int (Int32.ofInt (F (i + 6).toNat))), none, none, none], []) h1 = some (.inl (some (jI v)), h2) := r2
  have hN := H.2
  have ro1 : xR0 h h1 := hR _ _ _ _ r1
  have ro2 : xR0 h1 h2 := hR _ _ _ _ r2'
  have b1 := ro1.1 b _ hb rfl (by omega)
  have b2 := ro2.1 b _ b1 rfl (by have := ro1.2; omega)
  have a1 := ro1.1 a _ ha rfl (by omega)
  have a2 := ro2.1 a _ a1 rfl (by have := ro1.2; omega)
  have th := q_thrown hW (H2.get (k := 78) (by omega))
  rw [e0] at th
  have szz : h2.2.1 ≤ h.2.1 + 1 ∧ h2.2.2 ≤ h.2.2 + 6 := by rw [sz2]; exact sz1
  by_cases k0 : k = 0
  · subst k0
    have o1 := e1 rfl
    refine ⟨h2, Sb, Tb, some (.int (Int32.ofInt 0)), some (.int (Int32.ofInt v)), ?_, H2, Q2, ⟨b2, a2⟩, szz⟩
    simp (disch := omega) only [↓reduceIte, S0, S1, J_lt, J_le, J_eq, J_ldI, J_ldI3, J_ldB, J_ldL, J_ldR, J_stI, J_stB, J_stL, J_dv, j_gne, C0, CM, CP, CR, CJ, CS, CL, and_self, and_true, true_and, and_false, false_and, or_true, true_or, or_false, false_or, not_true_eq_false, not_false_eq_true, Option.map_some, J_ltT, J_ltF, J_leT, J_leF, J_eqT, J_eqF, J_ntT, J_ntF, E_Law_law hW, E_Law_law_p1 hW, E_Law_law_p2 hW, E_Law_law_p3 hW, E_Law_law_p4 hW, E_Law_law_p5 hW, E_Law_law_p6 hW, hb, r1, b1, H1.get, r2', H2.get, th, Int.reduceToNat, o1, lg_self]
  · refine ⟨h2, Sb, Tb, some (.int (Int32.ofInt k)), some (.int (Int32.ofInt v)), ?_, H2, Q2, ⟨b2, a2⟩, szz⟩
    simp (disch := omega) only [↓reduceIte, S0, S1, J_lt, J_le, J_eq, J_ldI, J_ldI3, J_ldB, J_ldL, J_ldR, J_stI, J_stB, J_stL, J_dv, j_gne, C0, CM, CP, CR, CJ, CS, CL, and_self, and_true, true_and, and_false, false_and, or_true, true_or, or_false, false_or, not_true_eq_false, not_false_eq_true, Option.map_some, J_ltT, J_ltF, J_leT, J_leF, J_eqT, J_eqF, J_ntT, J_ntF, E_Law_law hW, E_Law_law_p1 hW, E_Law_law_p2 hW, E_Law_law_p3 hW, E_Law_law_p4 hW, E_Law_law_p5 hW, E_Law_law_p6 hW, hb, r1, b1, H1.get, r2', H2.get, th]
theorem it_cell (hW : xFix V W) (hR : ∀ M f h r, W M f h = some r → xR0 h r.2) (H : HP N h S T) (Q : INV S) (bN : b < N) (aN : a < N) (hv : V 0 = .ref a) (hB : ∀ j, j < 8 → B j = B0 j) (hb : h.1 b = some (jA 3 n F)) (ha : h.1 a = some (jA 3 8 B)) (hF : ∀ k, j32 (F k)) (hn : n < 2147483648) (hi : 0 ≤ i ∧ i + 7 ≤ n) : ITR W N b a n F B i (W m_Law_law (318, [some (.ref b), some (.ref N), some (.ref (N + 78)), some (.ref (N + 101)), some (.int (Int32.ofInt i)), x5, x6], []) h) h := by
  obtain ⟨k, v, h1, h2, Sa, Ta, Sb, Tb, r1, H1, r2, H2, Q2, ⟨e0, e1, e3, e4⟩, sz1, sz2⟩ := o_cell hW H Q (hF (i + 1).toNat) (hF (i + 2).toNat) (hF (i + 3).toNat)
  have r2' : W m_Mod_cell (0, [some (.ref (N + 78)), some (.int (Int32.ofInt (F (i + 1).toNat))), some (.int (Int32.ofInt (F (i + 2).toNat))), some (.int (Int32.ofInt (F (i + 3).toNat)))], []) h1 = some (.inl (some (jI v)), h2) := r2
  have hN := H.2
  have ro1 : xR0 h h1 := hR _ _ _ _ r1
  have ro2 : xR0 h1 h2 := hR _ _ _ _ r2'
  have b1 := ro1.1 b _ hb rfl (by omega)
  have b2 := ro2.1 b _ b1 rfl (by have := ro1.2; omega)
  have a1 := ro1.1 a _ ha rfl (by omega)
  have a2 := ro2.1 a _ a1 rfl (by have := ro1.2; omega)
  have th := q_thrown hW (H2.get (k := 78) (by omega))
  rw [e0] at th
  have szz : h2.2.1 ≤ h.2.1 + 1 ∧ h2.2.2 ≤ h.2.2 + 6 := by rw [sz2]; exact sz1
  by_cases k0 : k = 0
  · subst k0
    have o1 := e1 rfl
    refine ⟨h2, Sb, Tb, some (.int (Int32.ofInt 0)), some (.int (Int32.ofInt v)), ?_, H2, Q2, ⟨b2, a2⟩, szz⟩
    simp (disch := omega) only [↓reduceIte, S0, S1, J_lt, J_le, J_eq, J_ldI, J_ldI3, J_ldB, J_ldL, J_ldR, J_stI, J_stB, J_stL, J_dv, j_gne, C0, CM, CP, CR, CJ, CS, CL, and_self, and_true, true_and, and_false, false_and, or_true, true_or, or_false, false_or, not_true_eq_false, not_false_eq_true, Option.map_some, J_ltT, J_ltF, J_leT, J_leF, J_eqT, J_eqF, J_ntT, J_ntF, E_Law_law hW, E_Law_law_p1 hW, E_Law_law_p2 hW, E_Law_law_p3 hW, E_Law_law_p4 hW, E_Law_law_p5 hW, E_Law_law_p6 hW, hb, r1, b1, H1.get, r2', H2.get, th, Int.reduceToNat, o1, lg_self]
  · refine ⟨h2, Sb, Tb, some (.int (Int32.ofInt k)), some (.int (Int32.ofInt v)), ?_, H2, Q2, ⟨b2, a2⟩, szz⟩
    simp (disch := omega) only [↓reduceIte, S0, S1, J_lt, J_le, J_eq, J_ldI, J_ldI3, J_ldB, J_ldL, J_ldR, J_stI, J_stB, J_stL, J_dv, j_gne, C0, CM, CP, CR, CJ, CS, CL, and_self, and_true, true_and, and_false, false_and, or_true, true_or, or_false, false_or, not_true_eq_false, not_false_eq_true, Option.map_some, J_ltT, J_ltF, J_leT, J_leF, J_eqT, J_eqF, J_ntT, J_ntF, E_Law_law hW, E_Law_law_p1 hW, E_Law_law_p2 hW, E_Law_law_p3 hW, E_Law_law_p4 hW, E_Law_law_p5 hW, E_Law_law_p6 hW, hb, r1, b1, H1.get, r2', H2.get, th]
theorem it_grey (hW : xFix V W) (hR : ∀ M f h r, W M f h = some r → xR0 h r.2) (H : HP N h S T) (Q : INV S) (bN : b < N) (aN : a < N) (hv : V 0 = .ref a) (hB : ∀ j, j < 8 → B j = B0 j) (hb : h.1 b = some (jA 3 n F)) (ha : h.1 a = some (jA 3 8 B)) (hF : ∀ k, j32 (F k)) (hn : n < 2147483648) (hi : 0 ≤ i ∧ i + 7 ≤ n) : ITR W N b a n F B i (W m_Law_law (398, [some (.ref b), some (.ref N), some (.ref (N + 78)), some (.ref (N + 101)), some (.int (Int32.ofInt i)), x5, x6], []) h) h := by
  obtain ⟨k, h1, h2, Sa, Ta, Sb, Tb, r1, H1, r2, H2, Q2, ⟨e0, e3⟩, sz1, sz2⟩ := o_grey hW H Q (hF (i + 1).toNat) (hF (i + 2).toNat)
  have r2' : W m_Mod_grey (0, [some (.ref (N + 78)), some (.int (Int32.ofInt (F (i + 1).toNat))), some (.int (Int32.ofInt (F (i + 2).toNat)))], []) h1 = some (.inl none, h2) := r2
  have hN := H.2
  have ro1 : xR0 h h1 := hR _ _ _ _ r1
  have ro2 : xR0 h1 h2 := hR _ _ _ _ r2'
  have b1 := ro1.1 b _ hb rfl (by omega)
  have b2 := ro2.1 b _ b1 rfl (by have := ro1.2; omega)
  have a1 := ro1.1 a _ ha rfl (by omega)
  have a2 := ro2.1 a _ a1 rfl (by have := ro1.2; omega)
  have th := q_thrown hW (H2.get (k := 78) (by omega))
  rw [e0] at th
  have szz : h2.2.1 ≤ h.2.1 + 1 ∧ h2.2.2 ≤ h.2.2 + 6 := by rw [sz2]; exact sz1
  refine ⟨h2, Sb, Tb, some (.int (Int32.ofInt k)), x6, ?_, H2, Q2, ⟨b2, a2⟩, szz⟩
  simp (disch := omega) only [↓reduceIte, S0, S1, J_lt, J_le, J_eq, J_ldI, J_ldI3, J_ldB, J_ldL, J_ldR, J_stI, J_stB, J_stL, J_dv, j_gne, C0, CM, CP, CR, CJ, CS, CL, and_self, and_true, true_and, and_false, false_and, or_true, true_or, or_false, false_or, not_true_eq_false, not_false_eq_true, Option.map_some, J_ltT, J_ltF, J_leT, J_leF, J_eqT, J_eqF, J_ntT, J_ntF, E_Law_law hW, E_Law_law_p1 hW, E_Law_law_p2 hW, E_Law_law_p3 hW, E_Law_law_p4 hW, E_Law_law_p5 hW, E_Law_law_p6 hW, hb, r1, b1, H1.get, r2', H2.get, th]
theorem it_separate (hW : xFix V W) (hR : ∀ M f h r, W M f h = some r → xR0 h r.2) (H : HP N h S T) (Q : INV S) (bN : b < N) (aN : a < N) (hv : V 0 = .ref a) (hB : ∀ j, j < 8 → B j = B0 j) (hb : h.1 b = some (jA 3 n F)) (ha : h.1 a = some (jA 3 8 B)) (hF : ∀ k, j32 (F k)) (hn : n < 2147483648) (hi : 0 ≤ i ∧ i + 7 ≤ n) : ITR W N b a n F B i (W m_Law_law (446, [some (.ref b), some (.ref N), some (.ref (N + 78)), some (.ref (N + 101)), some (.int (Int32.ofInt i)), x5, x6], []) h) h := by
  obtain ⟨k, v, h1, h2, Sa, Ta, Sb, Tb, r1, H1, r2, H2, Q2, ⟨e0, e1, e3, e4⟩, sz1, sz2⟩ := o_separate hW H Q (hF (i + 1).toNat)
  have r2' : W m_Mod_separate (0, [some (.ref (N + 78)), some (.int (Int32.ofInt (F (i + 1).toNat))), none, none], []) h1 = some (.inl (some (jI v)), h2) := r2
  have hN := H.2
  have ro1 : xR0 h h1 := hR _ _ _ _ r1
  have ro2 : xR0 h1 h2 := hR _ _ _ _ r2'
  have b1 := ro1.1 b _ hb rfl (by omega)
  have b2 := ro2.1 b _ b1 rfl (by have := ro1.2; omega)
  have a1 := ro1.1 a _ ha rfl (by omega)
  have a2 := ro2.1 a _ a1 rfl (by have := ro1.2; omega)
  have th := q_thrown hW (H2.get (k := 78) (by omega))
  rw [e0] at th
  have szz : h2.2.1 ≤ h.2.1 + 1 ∧ h2.2.2 ≤ h.2.2 + 6 := by rw [sz2]; exact sz1
  by_cases k0 : k = 0
  · subst k0
    have o1 := e1 rfl
    refine ⟨h2, Sb, Tb, some (.int (Int32.ofInt 0)), some (.int (Int32.ofInt v)), ?_, H2, Q2, ⟨b2, a2⟩, szz⟩
    simp (disch := omega) only [↓reduceIte, S0, S1, J_lt, J_le, J_eq, J_ldI, J_ldI3, J_ldB, J_ldL, J_ldR, J_stI, J_stB, J_stL, J_dv, j_gne, C0, CM, CP, CR, CJ, CS, CL, and_self, and_true, true_and, and_false, false_and, or_true, true_or, or_false, false_or, not_true_eq_false, not_false_eq_true, Option.map_some, J_ltT, J_ltF, J_leT, J_leF, J_eqT, J_eqF, J_ntT, J_ntF, E_Law_law hW, E_Law_law_p1 hW, E_Law_law_p2 hW, E_Law_law_p3 hW, E_Law_law_p4 hW, E_Law_law_p5 hW, E_Law_law_p6 hW, hb, r1, b1, H1.get, r2', H2.get, th, Int.reduceToNat, o1, lg_self]
  · refine ⟨h2, Sb, Tb, some (.int (Int32.ofInt k)), some (.int (Int32.ofInt v)), ?_, H2, Q2, ⟨b2, a2⟩, szz⟩
    simp (disch := omega) only [↓reduceIte, S0, S1, J_lt, J_le, J_eq, J_ldI, J_ldI3, J_ldB, J_ldL, J_ldR, J_stI, J_stB, J_stL, J_dv, j_gne, C0, CM, CP, CR, CJ, CS, CL, and_self, and_true, true_and, and_false, false_and, or_true, true_or, or_false, false_or, not_true_eq_false, not_false_eq_true, Option.map_some, J_ltT, J_ltF, J_leT, J_leF, J_eqT, J_eqF, J_ntT, J_ntF, E_Law_law hW, E_Law_law_p1 hW, E_Law_law_p2 hW, E_Law_law_p3 hW, E_Law_law_p4 hW, E_Law_law_p5 hW, E_Law_law_p6 hW, hb, r1, b1, H1.get, r2', H2.get, th]
theorem it_plate (hW : xFix V W) (hR : ∀ M f h r, W M f h = some r → xR0 h r.2) (H : HP N h S T) (Q : INV S) (bN : b < N) (aN : a < N) (hv : V 0 = .ref a) (hB : ∀ j, j < 8 → B j = B0 j) (hb : h.1 b = some (jA 3 n F)) (ha : h.1 a = some (jA 3 8 B)) (hF : ∀ k, j32 (F k)) (hn : n < 2147483648) (hi : 0 ≤ i ∧ i + 7 ≤ n) : ITR W N b a n F B i (W m_Law_law (502, [some (.ref b), some (.ref N), some (.ref (N + 78)), some (.ref (N + 101)), some (.int (Int32.ofInt i)), x5, x6], []) h) h := by
  obtain ⟨k, v, h1, h2, Sa, Ta, Sb, Tb, r1, H1, r2, H2, Q2, ⟨e0, e1, e3, e4⟩, sz1, sz2⟩ := o_plate hW H Q (hF (i + 1).toNat) (hF (i + 2).toNat) (hF (i + 3).toNat) (hF (i + 4).toNat)
  have r2' : W m_Mod_plate (0, [some (.ref (N + 78)), some (.int (Int32.ofInt (F (i + 1).toNat))), some (.int (Int32.ofInt (F (i + 2).toNat))), some (.int (Int32.ofInt (F (i + 3).toNat))), some (.int (Int32.ofInt (F (i + 4).toNat)))], []) h1 = some (.inl (some (jI v)), h2) := r2
  have hN := H.2
  have ro1 : xR0 h h1 := hR _ _ _ _ r1
  have ro2 : xR0 h1 h2 := hR _ _ _ _ r2'
  have b1 := ro1.1 b _ hb rfl (by omega)
  have b2 := ro2.1 b _ b1 rfl (by have := ro1.2; omega)
  have a1 := ro1.1 a _ ha rfl (by omega)
  have a2 := ro2.1 a _ a1 rfl (by have := ro1.2; omega)
  have th := q_thrown hW (H2.get (k := 78) (by omega))
  rw [e0] at th
  have szz : h2.2.1 ≤ h.2.1 + 1 ∧ h2.2.2 ≤ h.2.2 + 6 := by rw [sz2]; exact sz1
  by_cases k0 : k = 0
  · subst k0
    have o1 := e1 rfl
    refine ⟨h2, Sb, Tb, some (.int (Int32.ofInt 0)), some (.int (Int32.ofInt v)), ?_, H2, Q2, ⟨b2, a2⟩, szz⟩
    simp (disch := omega) only [↓reduceIte, S0, S1, J_lt, J_le, J_eq, J_ldI, J_ldI3, J_ldB, J_ldL, J_ldR, J_stI, J_stB, J_stL, J_dv, j_gne, C0, CM, CP, CR, CJ, CS, CL, and_self, and_true, true_and, and_false, false_and, or_true, true_or, or_false, false_or, not_true_eq_false, not_false_eq_true, Option.map_some, J_ltT, J_ltF, J_leT, J_leF, J_eqT, J_eqF, J_ntT, J_ntF, E_Law_law hW, E_Law_law_p1 hW, E_Law_law_p2 hW, E_Law_law_p3 hW, E_Law_law_p4 hW, E_Law_law_p5 hW, E_Law_law_p6 hW, hb, r1, b1, H1.get, r2', H2.get, th, Int.reduceToNat, o1, lg_self]
  · refine ⟨h2, Sb, Tb, some (.int (Int32.ofInt k)), some (.int (Int32.ofInt v)), ?_, H2, Q2, ⟨b2, a2⟩, szz⟩
    simp (disch := omega) only [↓reduceIte, S0, S1, J_lt, J_le, J_eq, J_ldI, J_ldI3, J_ldB, J_ldL, J_ldR, J_stI, J_stB, J_stL, J_dv, j_gne, C0, CM, CP, CR, CJ, CS, CL, and_self, and_true, true_and, and_false, false_and, or_true, true_or, or_false, false_or, not_true_eq_false, not_false_eq_true, Option.map_some, J_ltT, J_ltF, J_leT, J_leF, J_eqT, J_eqF, J_ntT, J_ntF, E_Law_law hW, E_Law_law_p1 hW, E_Law_law_p2 hW, E_Law_law_p3 hW, E_Law_law_p4 hW, E_Law_law_p5 hW, E_Law_law_p6 hW, hb, r1, b1, H1.get, r2', H2.get, th]
theorem it_trap (hW : xFix V W) (hR : ∀ M f h r, W M f h = some r → xR0 h r.2) (H : HP N h S T) (Q : INV S) (bN : b < N) (aN : a < N) (hv : V 0 = .ref a) (hB : ∀ j, j < 8 → B j = B0 j) (hb : h.1 b = some (jA 3 n F)) (ha : h.1 a = some (jA 3 8 B)) (hF : ∀ k, j32 (F k)) (hn : n < 2147483648) (hi : 0 ≤ i ∧ i + 7 ≤ n) : ITR W N b a n F B i (W m_Law_law (594, [some (.ref b), some (.ref N), some (.ref (N + 78)), some (.ref (N + 101)), some (.int (Int32.ofInt i)), x5, x6], []) h) h := by
  obtain ⟨k, v, h1, h2, Sa, Ta, Sb, Tb, r1, H1, r2, H2, Q2, ⟨e0, e1, e3, e4⟩, sz1, sz2⟩ := o_trap hW H Q aN hv hB ha (hF (i + 1).toNat) (hF (i + 2).toNat)
  have r2' : W m_Mod_trap (0, [some (.ref (N + 78)), some (.int (Int32.ofInt (F (i + 1).toNat))), some (.int (Int32.ofInt (F (i + 2).toNat))), none, none, none, none], []) h1 = some (.inl (some (jI v)), h2) := r2
  have hN := H.2
  have ro1 : xR0 h h1 := hR _ _ _ _ r1
  have ro2 : xR0 h1 h2 := hR _ _ _ _ r2'
  have b1 := ro1.1 b _ hb rfl (by omega)
  have b2 := ro2.1 b _ b1 rfl (by have := ro1.2; omega)
  have a1 := ro1.1 a _ ha rfl (by omega)
  have a2 := ro2.1 a _ a1 rfl (by have := ro1.2; omega)
  have th := q_thrown hW (H2.get (k := 78) (by omega))
  rw [e0] at th
  have szz : h2.2.1 ≤ h.2.1 + 1 ∧ h2.2.2 ≤ h.2.2 + 6 := by rw [sz2]; exact sz1
  by_cases k0 : k = 0
  · subst k0
    have o1 := e1 rfl
    refine ⟨h2, Sb, Tb, some (.int (Int32.ofInt 0)), some (.int (Int32.ofInt v)), ?_, H2, Q2, ⟨b2, a2⟩, szz⟩
    simp (disch := omega) only [↓reduceIte, S0, S1, J_lt, J_le, J_eq, J_ldI, J_ldI3, J_ldB, J_ldL, J_ldR, J_stI, J_stB, J_stL, J_dv, j_gne, C0, CM, CP, CR, CJ, CS, CL, and_self, and_true, true_and, and_false, false_and, or_true, true_or, or_false, false_or, not_true_eq_false, not_false_eq_true, Option.map_some, J_ltT, J_ltF, J_leT, J_leF, J_eqT, J_eqF, J_ntT, J_ntF, E_Law_law hW, E_Law_law_p1 hW, E_Law_law_p2 hW, E_Law_law_p3 hW, E_Law_law_p4 hW, E_Law_law_p5 hW, E_Law_law_p6 hW, hb, r1, b1, H1.get, r2', H2.get, th, Int.reduceToNat, o1, lg_self]
  · refine ⟨h2, Sb, Tb, some (.int (Int32.ofInt k)), some (.int (Int32.ofInt v)), ?_, H2, Q2, ⟨b2, a2⟩, szz⟩
    simp (disch := omega) only [↓reduceIte, S0, S1, J_lt, J_le, J_eq, J_ldI, J_ldI3, J_ldB, J_ldL, J_ldR, J_stI, J_stB, J_stL, J_dv, j_gne, C0, CM, CP, CR, CJ, CS, CL, and_self, and_true, true_and, and_false, false_and, or_true, true_or, or_false, false_or, not_true_eq_false, not_false_eq_true, Option.map_some, J_ltT, J_ltF, J_leT, J_leF, J_eqT, J_eqF, J_ntT, J_ntF, E_Law_law hW, E_Law_law_p1 hW, E_Law_law_p2 hW, E_Law_law_p3 hW, E_Law_law_p4 hW, E_Law_law_p5 hW, E_Law_law_p6 hW, hb, r1, b1, H1.get, r2', H2.get, th]
theorem it_trapped (hW : xFix V W) (hR : ∀ M f h r, W M f h = some r → xR0 h r.2) (H : HP N h S T) (Q : INV S) (bN : b < N) (aN : a < N) (hv : V 0 = .ref a) (hB : ∀ j, j < 8 → B j = B0 j) (hb : h.1 b = some (jA 3 n F)) (ha : h.1 a = some (jA 3 8 B)) (hF : ∀ k, j32 (F k)) (hn : n < 2147483648) (hi : 0 ≤ i ∧ i + 7 ≤ n) : ITR W N b a n F B i (W m_Law_law (662, [some (.ref b), some (.ref N), some (.ref (N + 78)), some (.ref (N + 101)), some (.int (Int32.ofInt i)), x5, x6], []) h) h := by
  obtain ⟨k, v, h1, h2, Sa, Ta, Sb, Tb, r1, H1, r2, H2, Q2, ⟨e0, e1, e3, e4⟩, sz1, sz2⟩ := o_trapped hW H Q (hF (i + 1).toNat) (hF (i + 2).toNat) (hF (i + 3).toNat)
  have r2' : W m_Mod_trapped (0, [some (.ref (N + 78)), some (.int (Int32.ofInt (F (i + 1).toNat))), some (.int (Int32.ofInt (F (i + 2).toNat))), some (.int (Int32.ofInt (F (i + 3).toNat))), none], []) h1 = some (.inl (some (jI v)), h2) := r2
  have hN := H.2
  have ro1 : xR0 h h1 := hR _ _ _ _ r1
  have ro2 : xR0 h1 h2 := hR _ _ _ _ r2'
  have b1 := ro1.1 b _ hb rfl (by omega)
  have b2 := ro2.1 b _ b1 rfl (by have := ro1.2; omega)
  have a1 := ro1.1 a _ ha rfl (by omega)
  have a2 := ro2.1 a _ a1 rfl (by have := ro1.2; omega)
  have th := q_thrown hW (H2.get (k := 78) (by omega))
  rw [e0] at th
  have szz : h2.2.1 ≤ h.2.1 + 1 ∧ h2.2.2 ≤ h.2.2 + 6 := by rw [sz2]; exact sz1
  by_cases k0 : k = 0
  · subst k0
    have o1 := e1 rfl
    refine ⟨h2, Sb, Tb, some (.int (Int32.ofInt 0)), some (.int (Int32.ofInt v)), ?_, H2, Q2, ⟨b2, a2⟩, szz⟩
    simp (disch := omega) only [↓reduceIte, S0, S1, J_lt, J_le, J_eq, J_ldI, J_ldI3, J_ldB, J_ldL, J_ldR, J_stI, J_stB, J_stL, J_dv, j_gne, C0, CM, CP, CR, CJ, CS, CL, and_self, and_true, true_and, and_false, false_and, or_true, true_or, or_false, false_or, not_true_eq_false, not_false_eq_true, Option.map_some, J_ltT, J_ltF, J_leT, J_leF, J_eqT, J_eqF, J_ntT, J_ntF, E_Law_law hW, E_Law_law_p1 hW, E_Law_law_p2 hW, E_Law_law_p3 hW, E_Law_law_p4 hW, E_Law_law_p5 hW, E_Law_law_p6 hW, hb, r1, b1, H1.get, r2', H2.get, th, Int.reduceToNat, o1, lg_self]
  · refine ⟨h2, Sb, Tb, some (.int (Int32.ofInt k)), some (.int (Int32.ofInt v)), ?_, H2, Q2, ⟨b2, a2⟩, szz⟩
    simp (disch := omega) only [↓reduceIte, S0, S1, J_lt, J_le, J_eq, J_ldI, J_ldI3, J_ldB, J_ldL, J_ldR, J_stI, J_stB, J_stL, J_dv, j_gne, C0, CM, CP, CR, CJ, CS, CL, and_self, and_true, true_and, and_false, false_and, or_true, true_or, or_false, false_or, not_true_eq_false, not_false_eq_true, Option.map_some, J_ltT, J_ltF, J_leT, J_leF, J_eqT, J_eqF, J_ntT, J_ntF, E_Law_law hW, E_Law_law_p1 hW, E_Law_law_p2 hW, E_Law_law_p3 hW, E_Law_law_p4 hW, E_Law_law_p5 hW, E_Law_law_p6 hW, hb, r1, b1, H1.get, r2', H2.get, th]
theorem it_screen (hW : xFix V W) (hR : ∀ M f h r, W M f h = some r → xR0 h r.2) (H : HP N h S T) (Q : INV S) (bN : b < N) (aN : a < N) (hv : V 0 = .ref a) (hB : ∀ j, j < 8 → B j = B0 j) (hb : h.1 b = some (jA 3 n F)) (ha : h.1 a = some (jA 3 8 B)) (hF : ∀ k, j32 (F k)) (hn : n < 2147483648) (hi : 0 ≤ i ∧ i + 7 ≤ n) : ITR W N b a n F B i (W m_Law_law (742, [some (.ref b), some (.ref N), some (.ref (N + 78)), some (.ref (N + 101)), some (.int (Int32.ofInt i)), x5, x6], []) h) h := by
  obtain ⟨k, v, h1, h2, Sa, Ta, Sb, Tb, r1, H1, r2, H2, Q2, ⟨e0, e1, e3, e4⟩, sz1, sz2⟩ := o_screen hW H Q (hF (i + 1).toNat) (hF (i + 2).toNat) (hF (i + 3).toNat) (hF (i + 4).toNat)
  have r2' : W m_Mod_screen (0, [some (.ref (N + 78)), some (.int (Int32.ofInt (F (i + 1).toNat))), some (.int (Int32.ofInt (F (i + 2).toNat))), some (.int (Int32.ofInt (F (i + 3).toNat))), some (.int (Int32.ofInt (F (i + 4).toNat))), none], []) h1 = some (.inl (some (jI v)), h2) := r2
  have hN := H.2
  have ro1 : xR0 h h1 := hR _ _ _ _ r1
  have ro2 : xR0 h1 h2 := hR _ _ _ _ r2'
  have b1 := ro1.1 b _ hb rfl (by omega)
  have b2 := ro2.1 b _ b1 rfl (by have := ro1.2; omega)
  have a1 := ro1.1 a _ ha rfl (by omega)
  have a2 := ro2.1 a _ a1 rfl (by have := ro1.2; omega)
  have th := q_thrown hW (H2.get (k := 78) (by omega))
  rw [e0] at th
  have szz : h2.2.1 ≤ h.2.1 + 1 ∧ h2.2.2 ≤ h.2.2 + 6 := by rw [sz2]; exact sz1
  by_cases k0 : k = 0
  · subst k0
    have o1 := e1 rfl
    refine ⟨h2, Sb, Tb, some (.int (Int32.ofInt 0)), some (.int (Int32.ofInt v)), ?_, H2, Q2, ⟨b2, a2⟩, szz⟩
    simp (disch := omega) only [↓reduceIte, S0, S1, J_lt, J_le, J_eq, J_ldI, J_ldI3, J_ldB, J_ldL, J_ldR, J_stI, J_stB, J_stL, J_dv, j_gne, C0, CM, CP, CR, CJ, CS, CL, and_self, and_true, true_and, and_false, false_and, or_true, true_or, or_false, false_or, not_true_eq_false, not_false_eq_true, Option.map_some, J_ltT, J_ltF, J_leT, J_leF, J_eqT, J_eqF, J_ntT, J_ntF, E_Law_law hW, E_Law_law_p1 hW, E_Law_law_p2 hW, E_Law_law_p3 hW, E_Law_law_p4 hW, E_Law_law_p5 hW, E_Law_law_p6 hW, hb, r1, b1, H1.get, r2', H2.get, th, Int.reduceToNat, o1, lg_self]
  · refine ⟨h2, Sb, Tb, some (.int (Int32.ofInt k)), some (.int (Int32.ofInt v)), ?_, H2, Q2, ⟨b2, a2⟩, szz⟩
    simp (disch := omega) only [↓reduceIte, S0, S1, J_lt, J_le, J_eq, J_ldI, J_ldI3, J_ldB, J_ldL, J_ldR, J_stI, J_stB, J_stL, J_dv, j_gne, C0, CM, CP, CR, CJ, CS, CL, and_self, and_true, true_and, and_false, false_and, or_true, true_or, or_false, false_or, not_true_eq_false, not_false_eq_true, Option.map_some, J_ltT, J_ltF, J_leT, J_leF, J_eqT, J_eqF, J_ntT, J_ntF, E_Law_law hW, E_Law_law_p1 hW, E_Law_law_p2 hW, E_Law_law_p3 hW, E_Law_law_p4 hW, E_Law_law_p5 hW, E_Law_law_p6 hW, hb, r1, b1, H1.get, r2', H2.get, th]
theorem it_rank (hW : xFix V W) (hR : ∀ M f h r, W M f h = some r → xR0 h r.2) (H : HP N h S T) (Q : INV S) (bN : b < N) (aN : a < N) (hv : V 0 = .ref a) (hB : ∀ j, j < 8 → B j = B0 j) (hb : h.1 b = some (jA 3 n F)) (ha : h.1 a = some (jA 3 8 B)) (hF : ∀ k, j32 (F k)) (hn : n < 2147483648) (hi : 0 ≤ i ∧ i + 7 ≤ n) : ITR W N b a n F B i (W m_Law_law (834, [some (.ref b), some (.ref N), some (.ref (N + 78)), some (.ref (N + 101)), some (.int (Int32.ofInt i)), x5, x6], []) h) h := by
  obtain ⟨k, v, h1, h2, Sa, Ta, Sb, Tb, r1, H1, r2, H2, Q2, ⟨e0, e1, e3, e4⟩, sz1, sz2⟩ := o_rank hW H Q (hF (i + 1).toNat) (hF (i + 2).toNat) (hF (i + 3).toNat)
  have r2' : W m_Mod_rank (0, [some (.ref (N + 78)), some (.int (Int32.ofInt (F (i + 1).toNat))), some (.int (Int32.ofInt (F (i + 2).toNat))), some (.int (Int32.ofInt (F (i + 3).toNat)))], []) h1 = some (.inl (some (jI v)), h2) := r2
  have hN := H.2
  have ro1 : xR0 h h1 := hR _ _ _ _ r1
  have ro2 : xR0 h1 h2 := hR _ _ _ _ r2'
  have b1 := ro1.1 b _ hb rfl (by omega)
  have b2 := ro2.1 b _ b1 rfl (by have := ro1.2; omega)
  have a1 := ro1.1 a _ ha rfl (by omega)
  have a2 := ro2.1 a _ a1 rfl (by have := ro1.2; omega)
  have th := q_thrown hW (H2.get (k := 78) (by omega))
  rw [e0] at th
  have szz : h2.2.1 ≤ h.2.1 + 1 ∧ h2.2.2 ≤ h.2.2 + 6 := by rw [sz2]; exact sz1
  by_cases k0 : k = 0
  · subst k0
    have o1 := e1 rfl
    refine ⟨h2, Sb, Tb, some (.int (Int32.ofInt 0)), some (.int (Int32.ofInt v)), ?_, H2, Q2, ⟨b2, a2⟩, szz⟩
    simp (disch := omega) only [↓reduceIte, S0, S1, J_lt, J_le, J_eq, J_ldI, J_ldI3, J_ldB, J_ldL, J_ldR, J_stI, J_stB, J_stL, J_dv, j_gne, C0, CM, CP, CR, CJ, CS, CL, and_self, and_true, true_and, and_false, false_and, or_true, true_or, or_false, false_or, not_true_eq_false, not_false_eq_true, Option.map_some, J_ltT, J_ltF, J_leT, J_leF, J_eqT, J_eqF, J_ntT, J_ntF, E_Law_law hW, E_Law_law_p1 hW, E_Law_law_p2 hW, E_Law_law_p3 hW, E_Law_law_p4 hW, E_Law_law_p5 hW, E_Law_law_p6 hW, hb, r1, b1, H1.get, r2', H2.get, th, Int.reduceToNat, o1, lg_self]
  · refine ⟨h2, Sb, Tb, some (.int (Int32.ofInt k)), some (.int (Int32.ofInt v)), ?_, H2, Q2, ⟨b2, a2⟩, szz⟩
    simp (disch := omega) only [↓reduceIte, S0, S1, J_lt, J_le, J_eq, J_ldI, J_ldI3, J_ldB, J_ldL, J_ldR, J_stI, J_stB, J_stL, J_dv, j_gne, C0, CM, CP, CR, CJ, CS, CL, and_self, and_true, true_and, and_false, false_and, or_true, true_or, or_false, false_or, not_true_eq_false, not_false_eq_true, Option.map_some, J_ltT, J_ltF, J_leT, J_leF, J_eqT, J_eqF, J_ntT, J_ntF, E_Law_law hW, E_Law_law_p1 hW, E_Law_law_p2 hW, E_Law_law_p3 hW, E_Law_law_p4 hW, E_Law_law_p5 hW, E_Law_law_p6 hW, hb, r1, b1, H1.get, r2', H2.get, th]
theorem it_dot (hW : xFix V W) (hR : ∀ M f h r, W M f h = some r → xR0 h r.2) (H : HP N h S T) (Q : INV S) (bN : b < N) (aN : a < N) (hv : V 0 = .ref a) (hB : ∀ j, j < 8 → B j = B0 j) (hb : h.1 b = some (jA 3 n F)) (ha : h.1 a = some (jA 3 8 B)) (hF : ∀ k, j32 (F k)) (hn : n < 2147483648) (hi : 0 ≤ i ∧ i + 7 ≤ n) : ITR W N b a n F B i (W m_Law_law (914, [some (.ref b), some (.ref N), some (.ref (N + 78)), some (.ref (N + 101)), some (.int (Int32.ofInt i)), x5, x6], []) h) h := by
  obtain ⟨k, v, h1, h2, Sa, Ta, Sb, Tb, r1, H1, r2, H2, Q2, ⟨e0, e1, e3, e4⟩, sz1, sz2⟩ := o_dot hW H Q (hF (i + 1).toNat) (hF (i + 2).toNat) (hF (i + 3).toNat) (hF (i + 4).toNat)
  have r2' : W m_Mod_dot (0, [some (.ref (N + 78)), some (.int (Int32.ofInt (F (i + 1).toNat))), some (.int (Int32.ofInt (F (i + 2).toNat))), some (.int (Int32.ofInt (F (i + 3).toNat))), some (.int (Int32.ofInt (F (i + 4).toNat)))], []) h1 = some (.inl (some (jI v)), h2) := r2
  have hN := H.2
  have ro1 : xR0 h h1 := hR _ _ _ _ r1
  have ro2 : xR0 h1 h2 := hR _ _ _ _ r2'
  have b1 := ro1.1 b _ hb rfl (by omega)
  have b2 := ro2.1 b _ b1 rfl (by have := ro1.2; omega)
  have a1 := ro1.1 a _ ha rfl (by omega)
  have a2 := ro2.1 a _ a1 rfl (by have := ro1.2; omega)
  have th := q_thrown hW (H2.get (k := 78) (by omega))
  rw [e0] at th
  have szz : h2.2.1 ≤ h.2.1 + 1 ∧ h2.2.2 ≤ h.2.2 + 6 := by rw [sz2]; exact sz1
  by_cases k0 : k = 0
  · subst k0
    have o1 := e1 rfl
    rcases e4 with rfl | rfl
    · refine ⟨h2, Sb, Tb, some (.int (Int32.ofInt 0)), some (.int (Int32.ofInt 0)), ?_, H2, Q2, ⟨b2, a2⟩, szz⟩
      rw [show Int32.toInt64 (Int32.ofInt 0) = 0 from rfl] at o1
      simp (disch := omega) only [↓reduceIte, S0, S1, J_lt, J_le, J_eq, J_ldI, J_ldI3, J_ldB, J_ldL, J_ldR, J_stI, J_stB, J_stL, J_dv, j_gne, C0, CM, CP, CR, CJ, CS, CL, and_self, and_true, true_and, and_false, false_and, or_true, true_or, or_false, false_or, not_true_eq_false, not_false_eq_true, Option.map_some, J_ltT, J_ltF, J_leT, J_leF, J_eqT, J_eqF, J_ntT, J_ntF, E_Law_law hW, E_Law_law_p1 hW, E_Law_law_p2 hW, E_Law_law_p3 hW, E_Law_law_p4 hW, E_Law_law_p5 hW, E_Law_law_p6 hW, hb, r1, b1, H1.get, r2', H2.get, th, Int.reduceToNat, o1, lg_self]
    · refine ⟨h2, Sb, Tb, some (.int (Int32.ofInt 0)), some (.int (Int32.ofInt 1)), ?_, H2, Q2, ⟨b2, a2⟩, szz⟩
      rw [show Int32.toInt64 (Int32.ofInt 1) = 1 from rfl] at o1
      simp (disch := omega) only [↓reduceIte, S0, S1, J_lt, J_le, J_eq, J_ldI, J_ldI3, J_ldB, J_ldL, J_ldR, J_stI, J_stB, J_stL, J_dv, j_gne, C0, CM, CP, CR, CJ, CS, CL, and_self, and_true, true_and, and_false, false_and, or_true, true_or, or_false, false_or, not_true_eq_false, not_false_eq_true, Option.map_some, J_ltT, J_ltF, J_leT, J_leF, J_eqT, J_eqF, J_ntT, J_ntF, E_Law_law hW, E_Law_law_p1 hW, E_Law_law_p2 hW, E_Law_law_p3 hW, E_Law_law_p4 hW, E_Law_law_p5 hW, E_Law_law_p6 hW, hb, r1, b1, H1.get, r2', H2.get, th, Int.reduceToNat, o1, lg_self]
  · refine ⟨h2, Sb, Tb, some (.int (Int32.ofInt k)), some (.int (Int32.ofInt v)), ?_, H2, Q2, ⟨b2, a2⟩, szz⟩
    simp (disch := omega) only [↓reduceIte, S0, S1, J_lt, J_le, J_eq, J_ldI, J_ldI3, J_ldB, J_ldL, J_ldR, J_stI, J_stB, J_stL, J_dv, j_gne, C0, CM, CP, CR, CJ, CS, CL, and_self, and_true, true_and, and_false, false_and, or_true, true_or, or_false, false_or, not_true_eq_false, not_false_eq_true, Option.map_some, J_ltT, J_ltF, J_leT, J_leF, J_eqT, J_eqF, J_ntT, J_ntF, E_Law_law hW, E_Law_law_p1 hW, E_Law_law_p2 hW, E_Law_law_p3 hW, E_Law_law_p4 hW, E_Law_law_p5 hW, E_Law_law_p6 hW, hb, r1, b1, H1.get, r2', H2.get, th]
theorem it_share (hW : xFix V W) (hR : ∀ M f h r, W M f h = some r → xR0 h r.2) (H : HP N h S T) (Q : INV S) (bN : b < N) (aN : a < N) (hv : V 0 = .ref a) (hB : ∀ j, j < 8 → B j = B0 j) (hb : h.1 b = some (jA 3 n F)) (ha : h.1 a = some (jA 3 8 B)) (hF : ∀ k, j32 (F k)) (hn : n < 2147483648) (hi : 0 ≤ i ∧ i + 7 ≤ n) : ITR W N b a n F B i (W m_Law_law (1013, [some (.ref b), some (.ref N), some (.ref (N + 78)), some (.ref (N + 101)), some (.int (Int32.ofInt i)), x5, x6], []) h) h := by
  obtain ⟨k, v, h1, h2, Sa, Ta, Sb, Tb, r1, H1, r2, H2, Q2, ⟨e0, e1, e3, e4⟩, sz1, sz2⟩ := o_share hW H Q (hF (i + 1).toNat) (hF (i + 2).toNat) (hF (i + 3).toNat) (hF (i + 4).toNat)
  have r2' : W m_Mod_share (0, [some (.ref (N + 78)), some (.int (Int32.ofInt (F (i + 1).toNat))), some (.int (Int32.ofInt (F (i + 2).toNat))), some (.int (Int32.ofInt (F (i + 3).toNat))), some (.int (Int32.ofInt (F (i + 4).toNat))), none, none, none, none, none, none], []) h1 = some (.inl (some (jI v)), h2) := r2
  have hN := H.2
  have ro1 : xR0 h h1 := hR _ _ _ _ r1
  have ro2 : xR0 h1 h2 := hR _ _ _ _ r2'
  have b1 := ro1.1 b _ hb rfl (by omega)
  have b2 := ro2.1 b _ b1 rfl (by have := ro1.2; omega)
  have a1 := ro1.1 a _ ha rfl (by omega)
  have a2 := ro2.1 a _ a1 rfl (by have := ro1.2; omega)
  have th := q_thrown hW (H2.get (k := 78) (by omega))
  rw [e0] at th
  have szz : h2.2.1 ≤ h.2.1 + 1 ∧ h2.2.2 ≤ h.2.2 + 6 := by rw [sz2]; exact sz1
  by_cases k0 : k = 0
  · subst k0
    have o1 := e1 rfl
    refine ⟨h2, Sb, Tb, some (.int (Int32.ofInt 0)), some (.int (Int32.ofInt v)), ?_, H2, Q2, ⟨b2, a2⟩, szz⟩
    simp (disch := omega) only [↓reduceIte, S0, S1, J_lt, J_le, J_eq, J_ldI, J_ldI3, J_ldB, J_ldL, J_ldR, J_stI, J_stB, J_stL, J_dv, j_gne, C0, CM, CP, CR, CJ, CS, CL, and_self, and_true, true_and, and_false, false_and, or_true, true_or, or_false, false_or, not_true_eq_false, not_false_eq_true, Option.map_some, J_ltT, J_ltF, J_leT, J_leF, J_eqT, J_eqF, J_ntT, J_ntF, E_Law_law hW, E_Law_law_p1 hW, E_Law_law_p2 hW, E_Law_law_p3 hW, E_Law_law_p4 hW, E_Law_law_p5 hW, E_Law_law_p6 hW, hb, r1, b1, H1.get, r2', H2.get, th, Int.reduceToNat, o1, lg_self]
  · refine ⟨h2, Sb, Tb, some (.int (Int32.ofInt k)), some (.int (Int32.ofInt v)), ?_, H2, Q2, ⟨b2, a2⟩, szz⟩
    simp (disch := omega) only [↓reduceIte, S0, S1, J_lt, J_le, J_eq, J_ldI, J_ldI3, J_ldB, J_ldL, J_ldR, J_stI, J_stB, J_stL, J_dv, j_gne, C0, CM, CP, CR, CJ, CS, CL, and_self, and_true, true_and, and_false, false_and, or_true, true_or, or_false, false_or, not_true_eq_false, not_false_eq_true, Option.map_some, J_ltT, J_ltF, J_leT, J_leF, J_eqT, J_eqF, J_ntT, J_ntF, E_Law_law hW, E_Law_law_p1 hW, E_Law_law_p2 hW, E_Law_law_p3 hW, E_Law_law_p4 hW, E_Law_law_p5 hW, E_Law_law_p6 hW, hb, r1, b1, H1.get, r2', H2.get, th]
theorem it_proof (hW : xFix V W) (hR : ∀ M f h r, W M f h = some r → xR0 h r.2) (H : HP N h S T) (Q : INV S) (bN : b < N) (aN : a < N) (hv : V 0 = .ref a) (hB : ∀ j, j < 8 → B j = B0 j) (hb : h.1 b = some (jA 3 n F)) (ha : h.1 a = some (jA 3 8 B)) (hF : ∀ k, j32 (F k)) (hn : n < 2147483648) (hi : 0 ≤ i ∧ i + 7 ≤ n) : ITR W N b a n F B i (W m_Law_law (1105, [some (.ref b), some (.ref N), some (.ref (N + 78)), some (.ref (N + 101)), some (.int (Int32.ofInt i)), x5, x6], []) h) h := by
  obtain ⟨k, v, h1, h2, Sa, Ta, Sb, Tb, r1, H1, r2, H2, Q2, ⟨e0, e1, e3, e4⟩, sz1, sz2⟩ := o_proof hW H Q (hF (i + 1).toNat) (hF (i + 2).toNat) (hF (i + 3).toNat)
  have r2' : W m_Mod_proof (0, [some (.ref (N + 78)), some (.int (Int32.ofInt (F (i + 1).toNat))), some (.int (Int32.ofInt (F (i + 2).toNat))), some (.int (Int32.ofInt (F (i + 3).toNat))), none, none], []) h1 = some (.inl (some (jI v)), h2) := r2
  have hN := H.2
  have ro1 : xR0 h h1 := hR _ _ _ _ r1
  have ro2 : xR0 h1 h2 := hR _ _ _ _ r2'
  have b1 := ro1.1 b _ hb rfl (by omega)
  have b2 := ro2.1 b _ b1 rfl (by have := ro1.2; omega)
  have a1 := ro1.1 a _ ha rfl (by omega)
  have a2 := ro2.1 a _ a1 rfl (by have := ro1.2; omega)
  have th := q_thrown hW (H2.get (k := 78) (by omega))
  rw [e0] at th
  have szz : h2.2.1 ≤ h.2.1 + 1 ∧ h2.2.2 ≤ h.2.2 + 6 := by rw [sz2]; exact sz1
  by_cases k0 : k = 0
  · subst k0
    have o1 := e1 rfl
    refine ⟨h2, Sb, Tb, some (.int (Int32.ofInt 0)), some (.int (Int32.ofInt v)), ?_, H2, Q2, ⟨b2, a2⟩, szz⟩
    simp (disch := omega) only [↓reduceIte, S0, S1, J_lt, J_le, J_eq, J_ldI, J_ldI3, J_ldB, J_ldL, J_ldR, J_stI, J_stB, J_stL, J_dv, j_gne, C0, CM, CP, CR, CJ, CS, CL, and_self, and_true, true_and, and_false, false_and, or_true, true_or, or_false, false_or, not_true_eq_false, not_false_eq_true, Option.map_some, J_ltT, J_ltF, J_leT, J_leF, J_eqT, J_eqF, J_ntT, J_ntF, E_Law_law hW, E_Law_law_p1 hW, E_Law_law_p2 hW, E_Law_law_p3 hW, E_Law_law_p4 hW, E_Law_law_p5 hW, E_Law_law_p6 hW, hb, r1, b1, H1.get, r2', H2.get, th, Int.reduceToNat, o1, lg_self]
  · refine ⟨h2, Sb, Tb, some (.int (Int32.ofInt k)), some (.int (Int32.ofInt v)), ?_, H2, Q2, ⟨b2, a2⟩, szz⟩
    simp (disch := omega) only [↓reduceIte, S0, S1, J_lt, J_le, J_eq, J_ldI, J_ldI3, J_ldB, J_ldL, J_ldR, J_stI, J_stB, J_stL, J_dv, j_gne, C0, CM, CP, CR, CJ, CS, CL, and_self, and_true, true_and, and_false, false_and, or_true, true_or, or_false, false_or, not_true_eq_false, not_false_eq_true, Option.map_some, J_ltT, J_ltF, J_leT, J_leF, J_eqT, J_eqF, J_ntT, J_ntF, E_Law_law hW, E_Law_law_p1 hW, E_Law_law_p2 hW, E_Law_law_p3 hW, E_Law_law_p4 hW, E_Law_law_p5 hW, E_Law_law_p6 hW, hb, r1, b1, H1.get, r2', H2.get, th]
theorem it_impose (hW : xFix V W) (hR : ∀ M f h r, W M f h = some r → xR0 h r.2) (H : HP N h S T) (Q : INV S) (bN : b < N) (aN : a < N) (hv : V 0 = .ref a) (hB : ∀ j, j < 8 → B j = B0 j) (hb : h.1 b = some (jA 3 n F)) (ha : h.1 a = some (jA 3 8 B)) (hF : ∀ k, j32 (F k)) (hn : n < 2147483648) (hi : 0 ≤ i ∧ i + 7 ≤ n) : ITR W N b a n F B i (W m_Law_law (1185, [some (.ref b), some (.ref N), some (.ref (N + 78)), some (.ref (N + 101)), some (.int (Int32.ofInt i)), x5, x6], []) h) h := by
  obtain ⟨k, v, h1, h2, Sa, Ta, Sb, Tb, r1, H1, r2, H2, Q2, ⟨e0, e1, e3, e4⟩, sz1, sz2⟩ := o_impose hW H Q (hF (i + 1).toNat) (hF (i + 2).toNat) (hF (i + 3).toNat)
  have r2' : W m_Mod_impose (0, [some (.ref (N + 78)), some (.int (Int32.ofInt (F (i + 1).toNat))), some (.int (Int32.ofInt (F (i + 2).toNat))), some (.int (Int32.ofInt (F (i + 3).toNat))), none, none, none, none, none], []) h1 = some (.inl (some (jI v)), h2) := r2
  have hN := H.2
  have ro1 : xR0 h h1 := hR _ _ _ _ r1
  have ro2 : xR0 h1 h2 := hR _ _ _ _ r2'
  have b1 := ro1.1 b _ hb rfl (by omega)
  have b2 := ro2.1 b _ b1 rfl (by have := ro1.2; omega)
  have a1 := ro1.1 a _ ha rfl (by omega)
  have a2 := ro2.1 a _ a1 rfl (by have := ro1.2; omega)
  have th := q_thrown hW (H2.get (k := 78) (by omega))
  rw [e0] at th
  have szz : h2.2.1 ≤ h.2.1 + 1 ∧ h2.2.2 ≤ h.2.2 + 6 := by rw [sz2]; exact sz1
  by_cases k0 : k = 0
  · subst k0
    have o1 := e1 rfl
    refine ⟨h2, Sb, Tb, some (.int (Int32.ofInt 0)), some (.int (Int32.ofInt v)), ?_, H2, Q2, ⟨b2, a2⟩, szz⟩
    simp (disch := omega) only [↓reduceIte, S0, S1, J_lt, J_le, J_eq, J_ldI, J_ldI3, J_ldB, J_ldL, J_ldR, J_stI, J_stB, J_stL, J_dv, j_gne, C0, CM, CP, CR, CJ, CS, CL, and_self, and_true, true_and, and_false, false_and, or_true, true_or, or_false, false_or, not_true_eq_false, not_false_eq_true, Option.map_some, J_ltT, J_ltF, J_leT, J_leF, J_eqT, J_eqF, J_ntT, J_ntF, E_Law_law hW, E_Law_law_p1 hW, E_Law_law_p2 hW, E_Law_law_p3 hW, E_Law_law_p4 hW, E_Law_law_p5 hW, E_Law_law_p6 hW, hb, r1, b1, H1.get, r2', H2.get, th, Int.reduceToNat, o1, lg_self]
  · refine ⟨h2, Sb, Tb, some (.int (Int32.ofInt k)), some (.int (Int32.ofInt v)), ?_, H2, Q2, ⟨b2, a2⟩, szz⟩
    simp (disch := omega) only [↓reduceIte, S0, S1, J_lt, J_le, J_eq, J_ldI, J_ldI3, J_ldB, J_ldL, J_ldR, J_stI, J_stB, J_stL, J_dv, j_gne, C0, CM, CP, CR, CJ, CS, CL, and_self, and_true, true_and, and_false, false_and, or_true, true_or, or_false, false_or, not_true_eq_false, not_false_eq_true, Option.map_some, J_ltT, J_ltF, J_leT, J_leF, J_eqT, J_eqF, J_ntT, J_ntF, E_Law_law hW, E_Law_law_p1 hW, E_Law_law_p2 hW, E_Law_law_p3 hW, E_Law_law_p4 hW, E_Law_law_p5 hW, E_Law_law_p6 hW, hb, r1, b1, H1.get, r2', H2.get, th]
theorem it_slot (hW : xFix V W) (hR : ∀ M f h r, W M f h = some r → xR0 h r.2) (H : HP N h S T) (Q : INV S) (bN : b < N) (aN : a < N) (hv : V 0 = .ref a) (hB : ∀ j, j < 8 → B j = B0 j) (hb : h.1 b = some (jA 3 n F)) (ha : h.1 a = some (jA 3 8 B)) (hF : ∀ k, j32 (F k)) (hn : n < 2147483648) (hi : 0 ≤ i ∧ i + 7 ≤ n) : ITR W N b a n F B i (W m_Law_law (1265, [some (.ref b), some (.ref N), some (.ref (N + 78)), some (.ref (N + 101)), some (.int (Int32.ofInt i)), x5, x6], []) h) h := by
  obtain ⟨k, v, h1, h2, Sa, Ta, Sb, Tb, r1, H1, r2, H2, Q2, ⟨e0, e1, e3, e4⟩, sz1, sz2⟩ := o_slot hW H Q (hF (i + 1).toNat) (hF (i + 2).toNat) (hF (i + 3).toNat) (hF (i + 4).toNat)
  have r2' : W m_Mod_slot (0, [some (.ref (N + 78)), some (.int (Int32.ofInt (F (i + 1).toNat))), some (.int (Int32.ofInt (F (i + 2).toNat))), some (.int (Int32.ofInt (F (i + 3).toNat))), some (.int (Int32.ofInt (F (i + 4).toNat))), none, none], []) h1 = some (.inl (some (jI v)), h2) := r2
  have hN := H.2
  have ro1 : xR0 h h1 := hR _ _ _ _ r1
  have ro2 : xR0 h1 h2 := hR _ _ _ _ r2'
  have b1 := ro1.1 b _ hb rfl (by omega)
  have b2 := ro2.1 b _ b1 rfl (by have := ro1.2; omega)
  have a1 := ro1.1 a _ ha rfl (by omega)
  have a2 := ro2.1 a _ a1 rfl (by have := ro1.2; omega)
  have th := q_thrown hW (H2.get (k := 78) (by omega))
  rw [e0] at th
  have szz : h2.2.1 ≤ h.2.1 + 1 ∧ h2.2.2 ≤ h.2.2 + 6 := by rw [sz2]; exact sz1
  by_cases k0 : k = 0
  · subst k0
    have o1 := e1 rfl
    refine ⟨h2, Sb, Tb, some (.int (Int32.ofInt 0)), some (.int (Int32.ofInt v)), ?_, H2, Q2, ⟨b2, a2⟩, szz⟩
    simp (disch := omega) only [↓reduceIte, S0, S1, J_lt, J_le, J_eq, J_ldI, J_ldI3, J_ldB, J_ldL, J_ldR, J_stI, J_stB, J_stL, J_dv, j_gne, C0, CM, CP, CR, CJ, CS, CL, and_self, and_true, true_and, and_false, false_and, or_true, true_or, or_false, false_or, not_true_eq_false, not_false_eq_true, Option.map_some, J_ltT, J_ltF, J_leT, J_leF, J_eqT, J_eqF, J_ntT, J_ntF, E_Law_law hW, E_Law_law_p1 hW, E_Law_law_p2 hW, E_Law_law_p3 hW, E_Law_law_p4 hW, E_Law_law_p5 hW, E_Law_law_p6 hW, hb, r1, b1, H1.get, r2', H2.get, th, Int.reduceToNat, o1, lg_self]
  · refine ⟨h2, Sb, Tb, some (.int (Int32.ofInt k)), some (.int (Int32.ofInt v)), ?_, H2, Q2, ⟨b2, a2⟩, szz⟩
    simp (disch := omega) only [↓reduceIte, S0, S1, J_lt, J_le, J_eq, J_ldI, J_ldI3, J_ldB, J_ldL, J_ldR, J_stI, J_stB, J_stL, J_dv, j_gne, C0, CM, CP, CR, CJ, CS, CL, and_self, and_true, true_and, and_false, false_and, or_true, true_or, or_false, false_or, not_true_eq_false, not_false_eq_true, Option.map_some, J_ltT, J_ltF, J_leT, J_leF, J_eqT, J_eqF, J_ntT, J_ntF, E_Law_law hW, E_Law_law_p1 hW, E_Law_law_p2 hW, E_Law_law_p3 hW, E_Law_law_p4 hW, E_Law_law_p5 hW, E_Law_law_p6 hW, hb, r1, b1, H1.get, r2', H2.get, th]
theorem it_read (hW : xFix V W) (hR : ∀ M f h r, W M f h = some r → xR0 h r.2) (H : HP N h S T) (Q : INV S) (bN : b < N) (aN : a < N) (hv : V 0 = .ref a) (hB : ∀ j, j < 8 → B j = B0 j) (hb : h.1 b = some (jA 3 n F)) (ha : h.1 a = some (jA 3 8 B)) (hF : ∀ k, j32 (F k)) (hn : n < 2147483648) (hi : 0 ≤ i ∧ i + 7 ≤ n) : ITR W N b a n F B i (W m_Law_law (1357, [some (.ref b), some (.ref N), some (.ref (N + 78)), some (.ref (N + 101)), some (.int (Int32.ofInt i)), x5, x6], []) h) h := by
  obtain ⟨k, v, h1, h2, Sa, Ta, Sb, Tb, r1, H1, r2, H2, Q2, ⟨e0, e1, e3, e4⟩, sz1, sz2⟩ := o_read hW H Q (hF (i + 1).toNat) (hF (i + 2).toNat)
  have r2' : W m_Mod_read (0, [some (.ref (N + 78)), some (.int (Int32.ofInt (F (i + 1).toNat))), some (.int (Int32.ofInt (F (i + 2).toNat))), none], []) h1 = some (.inl (some (jI v)), h2) := r2
  have hN := H.2
  have ro1 : xR0 h h1 := hR _ _ _ _ r1
  have ro2 : xR0 h1 h2 := hR _ _ _ _ r2'
  have b1 := ro1.1 b _ hb rfl (by omega)
  have b2 := ro2.1 b _ b1 rfl (by have := ro1.2; omega)
  have a1 := ro1.1 a _ ha rfl (by omega)
  have a2 := ro2.1 a _ a1 rfl (by have := ro1.2; omega)
  have th := q_thrown hW (H2.get (k := 78) (by omega))
  rw [e0] at th
  have szz : h2.2.1 ≤ h.2.1 + 1 ∧ h2.2.2 ≤ h.2.2 + 6 := by rw [sz2]; exact sz1
  by_cases k0 : k = 0
  · subst k0
    have o1 := e1 rfl
    refine ⟨h2, Sb, Tb, some (.int (Int32.ofInt 0)), some (.int (Int32.ofInt v)), ?_, H2, Q2, ⟨b2, a2⟩, szz⟩
    simp (disch := omega) only [↓reduceIte, S0, S1, J_lt, J_le, J_eq, J_ldI, J_ldI3, J_ldB, J_ldL, J_ldR, J_stI, J_stB, J_stL, J_dv, j_gne, C0, CM, CP, CR, CJ, CS, CL, and_self, and_true, true_and, and_false, false_and, or_true, true_or, or_false, false_or, not_true_eq_false, not_false_eq_true, Option.map_some, J_ltT, J_ltF, J_leT, J_leF, J_eqT, J_eqF, J_ntT, J_ntF, E_Law_law hW, E_Law_law_p1 hW, E_Law_law_p2 hW, E_Law_law_p3 hW, E_Law_law_p4 hW, E_Law_law_p5 hW, E_Law_law_p6 hW, hb, r1, b1, H1.get, r2', H2.get, th, Int.reduceToNat, o1, lg_self]
  · refine ⟨h2, Sb, Tb, some (.int (Int32.ofInt k)), some (.int (Int32.ofInt v)), ?_, H2, Q2, ⟨b2, a2⟩, szz⟩
    simp (disch := omega) only [↓reduceIte, S0, S1, J_lt, J_le, J_eq, J_ldI, J_ldI3, J_ldB, J_ldL, J_ldR, J_stI, J_stB, J_stL, J_dv, j_gne, C0, CM, CP, CR, CJ, CS, CL, and_self, and_true, true_and, and_false, false_and, or_true, true_or, or_false, false_or, not_true_eq_false, not_false_eq_true, Option.map_some, J_ltT, J_ltF, J_leT, J_leF, J_eqT, J_eqF, J_ntT, J_ntF, E_Law_law hW, E_Law_law_p1 hW, E_Law_law_p2 hW, E_Law_law_p3 hW, E_Law_law_p4 hW, E_Law_law_p5 hW, E_Law_law_p6 hW, hb, r1, b1, H1.get, r2', H2.get, th]
end LAS
