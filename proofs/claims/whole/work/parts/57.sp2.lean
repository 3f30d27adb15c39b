/-! colours within a distance, step by step -/
def acrP (G : Nat → Nat → Prop) (q i : Nat) : Prop := (0 < q % 48 ∧ G (q - 1) i) ∨ G q i ∨ (q % 48 < 47 ∧ G (q + 1) i)
def dwnP (G : Nat → Nat → Prop) (q i : Nat) : Prop := (48 ≤ q ∧ G (q - 48) i) ∨ G q i ∨ (q < 3024 ∧ G (q + 48) i)
def nrP (C : Nat → Int) : Nat → Nat → Nat → Prop
  | 0, q, i => i = (C q).toNat
  | r + 1, q, i => dwnP (acrP (nrP C r)) q i
theorem uN_0 (i : Nat) : (uN 0).testBit i = false := by rw [show uN 0 = 0 from rfl, Nat.zero_testBit]
theorem acr_bit {G : Nat → Int64} {P : Nat → Nat → Prop} (h : ∀ q, q < 3072 → ∀ i, (uN (G q)).testBit i = true ↔ P q i) : ∀ q, q < 3072 → ∀ i, (uN (acr G q)).testBit i = true ↔ acrP P q i := by
  intro q hq i
  unfold acr acrP
  rw [uN_or, uN_or, Nat.testBit_or, Nat.testBit_or, Bool.or_eq_true, Bool.or_eq_true, h q hq i]
  by_cases z1 : 0 < q % 48
  · by_cases z2 : q % 48 < 47
    · rw [if_pos z1, if_pos z2, h (q - 1) (by omega) i, h (q + 1) (by omega) i]
      constructor
      · rintro ((a | a) | a)
        · exact Or.inl ⟨z1, a⟩
        · exact Or.inr (Or.inl a)
        · exact Or.inr (Or.inr ⟨z2, a⟩)
      · rintro (a | a | a)
        · exact Or.inl (Or.inl a.2)
        · exact Or.inl (Or.inr a)
        · exact Or.inr a.2
    · rw [if_pos z1, if_neg z2, h (q - 1) (by omega) i, uN_0]
      constructor
      · rintro ((a | a) | a)
        · exact Or.inl ⟨z1, a⟩
        · exact Or.inr (Or.inl a)
        · cases a
      · rintro (a | a | a)
        · exact Or.inl (Or.inl a.2)
        · exact Or.inl (Or.inr a)
        · exact absurd a.1 z2
  · rw [if_neg z1, if_pos (show q % 48 < 47 by omega), h (q + 1) (by omega) i, uN_0]
    constructor
    · rintro ((a | a) | a)
      · cases a
      · exact Or.inr (Or.inl a)
      · exact Or.inr (Or.inr ⟨by omega, a⟩)
    · rintro (a | a | a)
      · exact absurd a.1 z1
      · exact Or.inl (Or.inr a)
      · exact Or.inr a.2
theorem dwn_bit {G : Nat → Int64} {P : Nat → Nat → Prop} (h : ∀ q, q < 3072 → ∀ i, (uN (G q)).testBit i = true ↔ P q i) : ∀ q, q < 3072 → ∀ i, (uN (dwn G q)).testBit i = true ↔ dwnP P q i := by
  intro q hq i
  unfold dwn dwnP
  rw [uN_or, uN_or, Nat.testBit_or, Nat.testBit_or, Bool.or_eq_true, Bool.or_eq_true, h q hq i]
  by_cases z1 : 48 ≤ q
  · by_cases z2 : q < 3024
    · rw [if_pos z1, if_pos z2, h (q - 48) (by omega) i, h (q + 48) (by omega) i]
      constructor
      · rintro ((a | a) | a)
        · exact Or.inl ⟨z1, a⟩
        · exact Or.inr (Or.inl a)
        · exact Or.inr (Or.inr ⟨z2, a⟩)
      · rintro (a | a | a)
        · exact Or.inl (Or.inl a.2)
        · exact Or.inl (Or.inr a)
        · exact Or.inr a.2
    · rw [if_pos z1, if_neg z2, h (q - 48) (by omega) i, uN_0]
      constructor
      · rintro ((a | a) | a)
        · exact Or.inl ⟨z1, a⟩
        · exact Or.inr (Or.inl a)
        · cases a
      · rintro (a | a | a)
        · exact Or.inl (Or.inl a.2)
        · exact Or.inl (Or.inr a)
        · exact absurd a.1 z2
  · rw [if_neg z1, if_pos (show q < 3024 by omega), h (q + 48) (by omega) i, uN_0]
    constructor
    · rintro ((a | a) | a)
      · cases a
      · exact Or.inr (Or.inl a)
      · exact Or.inr (Or.inr ⟨by omega, a⟩)
    · rintro (a | a | a)
      · exact absurd a.1 z1
      · exact Or.inl (Or.inr a)
      · exact Or.inr a.2
/-- rounds of marking: n more, d done -/
def RR (C : Nat → Int) (Q : Nat → Nat → Prop) : Nat → Nat → (Nat → Int) → (Nat → Int) → Prop
  | 0, _, L, L' => ∀ q, q < 3072 → L' q = L q
  | n + 1, d, L, L' => ∃ L1, (∀ q, q < 3072 → MR (fun q i => nrP C (d + 1) q i ∧ Q q i) q (L q) (L1 q)) ∧ RR C Q n (d + 1) L1 L'
theorem MR_congr {G G' : Nat → Nat → Prop} {q : Nat} {a b : Int} (h : ∀ i, G q i ↔ G' q i) (k : MR G q a b) : MR G' q a b := by
  rcases k with k | ⟨k1, k2, k3⟩ | ⟨k1, k2, k3, k4, k5⟩
  · exact Or.inl k
  · exact Or.inr (Or.inl ⟨k1, k2, fun i z => k3 i ((h i).mpr z)⟩)
  · exact Or.inr (Or.inr ⟨k1, k2, k3, (h _).mp k4, fun i hi z => k5 i hi ((h i).mpr z)⟩)
section SP2
variable {V : Nat → Value} {W : xWt} {N : Nat}
theorem p_spreadLoop (hW : xFix V W) {p : Nat} (hp : p < 4) {C : Nat → Int} (hC : ∀ j, j < 3072 → 0 ≤ C j ∧ C j < 64) {w : Int} {Q : Nat → Nat → Prop} (hw : w ≤ 3) : ∀ (n d : Nat) (h : xH) (S : Nat → Nat → Int) (T : Nat → Nat → Int64) (x : Int), HP N h S T → S (9 + 4 * p) = C → (∀ q, q < 3072 → -1 ≤ S (10 + 4 * p) q ∧ S (10 + 4 * p) q < 64) → (∀ q, q < 3072 → ∀ i, (uN (T 28 q)).testBit i = true ↔ nrP C d q i) → (∀ q, q < 3072 → ∀ i, (uN (T 27 (C q).toNat)).testBit i = true ↔ Q q i) → (d : Int) + n = w →
    ∃ h' S' T', W m_Spr_spread (63, [some (.ref (N + 24)), some (.ref (N + (8 + 4 * p))), some (.int (Int32.ofInt w)), some (.int (Int32.ofInt x)), some (.int (Int32.ofInt ((d : Int) + 1)))], []) h = W m_Spr_spread (91, [some (.ref (N + 24)), some (.ref (N + (8 + 4 * p))), some (.int (Int32.ofInt w)), some (.int (Int32.ofInt (x + (cq (S' (10 + 4 * p)) 3072 0 - cq (S (10 + 4 * p)) 3072 0)))), some (.int (Int32.ofInt (w + 1)))], []) h' ∧ HP N h' S' T' ∧ h'.2 = h.2 ∧ (∀ j, j ≠ 10 + 4 * p → S' j = S j) ∧ (∀ q, q < 3072 → -1 ≤ S' (10 + 4 * p) q ∧ S' (10 + 4 * p) q < 64) ∧ RR C Q n d (S (10 + 4 * p)) (S' (10 + 4 * p)) := by
  intro n
  induction n with
  | zero =>
    intro d h S T x H hS hL hN hQ hd
    have e : (d : Int) = w := by omega
    refine ⟨h, S, T, ?_, H, rfl, fun _ _ => rfl, hL, fun _ _ => rfl⟩
    rw [L_Spr_spread_63 hW, show x + (cq (S (10 + 4 * p)) 3072 0 - cq (S (10 + 4 * p)) 3072 0) = x by omega, e]
    simp (disch := omega) only [↓reduceIte, S0, S1, J_lt, J_le, J_eq, J_ldI, J_ldI3, J_ldB, J_ldL, J_ldR, J_stI, J_stB, J_stL, J_dv, j_gne, C0, CM, CP, CR, CJ, CS, CL, and_self, and_true, true_and, and_false, false_and, or_true, true_or, or_false, false_or, not_true_eq_false, not_false_eq_true, Option.map_some, J_ltT, J_ltF, J_leT, J_leF, J_eqT, J_eqF, J_ntT, J_ntF]
  | succ n ih =>
    intro d h S T x H hS hL hN hQ hd
    obtain ⟨h1, Ta, a1, a2, a3, a4, a5, a6, a7⟩ := p_across hW 3072 0 h T none none none H (by omega)
    obtain ⟨h2, Tb, b1, b2, b3, b4, b5, b6, b7⟩ := p_down hW 3072 0 h1 Ta none none a2 (by omega)
    have n28 : ∀ q, q < 3072 → ∀ i, (uN (Tb 28 q)).testBit i = true ↔ nrP C (d + 1) q i := by
      intro q hq i
      rw [b6 q (by omega) hq]
      refine dwn_bit (P := acrP (nrP C d)) (fun q hq i => ?_) q hq i
      rw [a6 q (by omega) hq]
      exact acr_bit hN q hq i
    have e27 : Tb 27 = T 27 := by rw [b5 27 (by decide), a5 27 (by decide)]
    obtain ⟨h3, Sc, c1, c2, c3, c4, c5, c6, c7, c8⟩ := p_markLoop hW hp hC 3072 0 h2 S 0 none b2 hS hL (by omega)
    obtain ⟨h4, Sd, Td, d1, d2, d3, d4, d5, d6⟩ := ih (d + 1) h3 Sc Tb (x + (cq (Sc (10 + 4 * p)) 3072 0 - cq (S (10 + 4 * p)) 3072 0)) c2 (by rw [c5 _ (by omega)]; exact hS) c7 n28 (by rw [e27]; exact hQ) (by omega)
    rw [show (((d + 1 : Nat) : Int)) = (d : Int) + 1 by omega] at d1
    rw [show ((0 : Nat) : Int) = 0 from rfl] at a1 b1 c1
    refine ⟨h4, Sd, Td, ?_, d2, by rw [d3, c3, b3, a3], fun j hj => by rw [d4 j hj, c5 j hj], d5, ⟨Sc (10 + 4 * p), fun q hq => ?_, d6⟩⟩
    · have ex : x + (cq (Sd (10 + 4 * p)) 3072 0 - cq (S (10 + 4 * p)) 3072 0) = x + (cq (Sc (10 + 4 * p)) 3072 0 - cq (S (10 + 4 * p)) 3072 0) + (cq (Sd (10 + 4 * p)) 3072 0 - cq (Sc (10 + 4 * p)) 3072 0) := by omega
      rw [L_Spr_spread_63 hW, ex, ← d1]
      have w1 : W m_Spr_widenAcross (0, [some (.ref (N + 24)), none, none, none, none, none, none], []) h = some (.inl none, h1) := by rw [← a1]; simp only [E_Spr_widenAcross hW]
      have w2 : W m_Spr_widenDown (0, [some (.ref (N + 24)), none, none, none, none, none], []) h1 = some (.inl none, h2) := by rw [← b1]; simp only [E_Spr_widenDown hW]
      have w3 : W m_Spr_markReached (0, [some (.ref (N + 24)), some (.ref (N + (8 + 4 * p))), none, none, none, none], []) h2 = some (.inl (some (jI (0 + (cq (Sc (10 + 4 * p)) 3072 0 - cq (S (10 + 4 * p)) 3072 0)))), h3) := by rw [← c1]; simp only [E_Spr_markReached hW]
      rw [Int.zero_add] at w3
      simp (disch := omega) only [↓reduceIte, S0, S1, J_lt, J_le, J_eq, J_ldI, J_ldI3, J_ldB, J_ldL, J_ldR, J_stI, J_stB, J_stL, J_dv, j_gne, C0, CM, CP, CR, CJ, CS, CL, and_self, and_true, true_and, and_false, false_and, or_true, true_or, or_false, false_or, not_true_eq_false, not_false_eq_true, Option.map_some, J_ltT, J_ltF, J_leT, J_leF, J_eqT, J_eqF, J_ntT, J_ntF, E_Spr_spread hW, H.get, a2.get, b2.get, w1, w2, w3]
    · refine MR_congr (fun i => ?_) (c8 q (by omega) hq)
      rw [uN_and, Nat.testBit_and, Bool.and_eq_true, n28 q hq i, e27, hQ q hq i]
end SP2
