section TR
variable {V : Nat → Value} {W : xWt} {N : Nat} {T : Nat → Nat → Int64}
theorem p_weigh (hW : xFix V W) {p : Nat} (hp : p < 4) {B : Nat → Int} {w : Nat} (hwN : w < N) (hv : V 0 = .ref w) {A : Nat → Int} (hA : ∀ j, j < 512 → 0 ≤ A j ∧ A j ≤ 255) : ∀ (n : Nat) (c : Int) (h : xH) (S : Nat → Nat → Int), HP N h S T → h.1 w = some (jA 3 8 B) → S (11 + 4 * p) = A → 0 ≤ c → c + n = 64 →
    ∃ h' S', W m_Spr_weigh (2, [some (.ref (N + 24)), some (.ref (N + (8 + 4 * p))), some (.int (Int32.ofInt c))], []) h = some (.inl none, h') ∧ HP N h' S' T ∧ h'.2 = h.2 ∧ (∀ q, q < N → h'.1 q = h.1 q) ∧ (∀ k, k ≠ 25 → k ≠ 26 → S' k = S k) ∧ (∀ q : Nat, c ≤ q → q < 64 → S' 25 q = (inkN A (q * 8) 8 0 0 : Nat) ∧ S' 26 q = wtN A B (q * 8) 8 0 0) ∧ (∀ q : Nat, (q : Int) < c → S' 25 q = S 25 q ∧ S' 26 q = S 26 q) := by
  intro n
  induction n with
  | zero =>
    intro c h S H hw hS c0 c1
    refine ⟨h, S, ?_, H, rfl, fun _ _ => rfl, fun _ _ _ => rfl, fun q a b => by omega, fun _ _ => ⟨rfl, rfl⟩⟩
    rw [L_Spr_weigh_2 hW]
    simp (disch := omega) only [↓reduceIte, S0, S1, J_lt, J_le, J_eq, J_ldI, J_ldI3, J_ldB, J_ldL, J_ldR, J_stI, J_stB, J_stL, J_dv, j_gne, C0, CM, CP, CR, CJ, CS, CL, and_self, and_true, true_and, and_false, false_and, or_true, true_or, or_false, false_or, not_true_eq_false, not_false_eq_true, Option.map_some, J_ltT, J_ltF, J_leT, J_leF, J_eqT, J_eqF, J_ntT, J_ntF, E_Spr_weigh hW]
  | succ n ih =>
    intro c h S H hw hS c0 c1
    have H1 := H.put (k := 25) (by omega) (jup (S 25) c.toNat (inkN A (c * 8) 8 0 0 : Nat)) (e := jA 0 64 (jup (S 25) c.toNat (inkN A (c * 8) 8 0 0 : Nat))) rfl
    have H2 := H1.put (k := 26) (by omega) (jup (S 26) c.toNat (wtN A B (c * 8) 8 0 0)) (e := jA 0 64 (jup (S 26) c.toNat (wtN A B (c * 8) 8 0 0))) rfl
    have i1 := p_inksOf hW hp (N := N) (h := h) (A := A) (H.get (k := 8 + 4 * p) (by omega)) (by rw [H.get (by omega), (cell_job N _ _ hp).2.2.2, hS]) (c := c) (by omega) hA 8 0 0 (by omega) (by omega) (by omega)
    rw [show ((0 : Nat) : Int) = 0 from rfl] at i1
    have i2 := p_weightOf hW hp (N := N) (h := xset h (N + 25) (jA 0 64 (jup (S 25) c.toNat (inkN A (c * 8) 8 0 0 : Nat)))) (A := A) (B := B) (w := w) (FJ := S (8 + 4 * p)) (GJ := T (8 + 4 * p)) (by rw [j_gne _ _ (by omega)]; exact H.get (by omega)) (by rw [j_gne _ _ (by omega), H.get (by omega), (cell_job N _ _ hp).2.2.2, hS]) hv (by rw [j_gne _ _ (by omega)]; exact hw) (c := c) (by omega) 8 0 0 (by omega) (by omega)
    obtain ⟨h', S', r1, r2, r3, r4, r5, r6, r7⟩ := ih (c + 1) _ _ H2 (by rw [j_gne _ _ (by omega), j_gne _ _ (by omega)]; exact hw) (by rw [sup_ne _ _ (by omega), sup_ne _ _ (by omega)]; exact hS) (by omega) (by omega)
    have g25 : sup (sup S 25 (jup (S 25) c.toNat (inkN A (c * 8) 8 0 0 : Nat))) 26 (jup (S 26) c.toNat (wtN A B (c * 8) 8 0 0)) 25 = jup (S 25) c.toNat (inkN A (c * 8) 8 0 0 : Nat) := by rw [sup_ne _ _ (by decide), sup_same]
    have g26 : sup (sup S 25 (jup (S 25) c.toNat (inkN A (c * 8) 8 0 0 : Nat))) 26 (jup (S 26) c.toNat (wtN A B (c * 8) 8 0 0)) 26 = jup (S 26) c.toNat (wtN A B (c * 8) 8 0 0) := sup_same _ _ _
    rw [g25, g26] at r7
    refine ⟨h', S', ?_, r2, r3.trans rfl, fun q hq => by rw [r4 q hq, j_gne _ _ (by omega), j_gne _ _ (by omega)], fun k k1 k2 => by rw [r5 k k1 k2, sup_ne _ _ k2, sup_ne _ _ k1], fun q a b => ?_, fun q a => ?_⟩
    · rw [L_Spr_weigh_2 hW, ← r1]
      simp (disch := omega) only [↓reduceIte, S0, S1, J_lt, J_le, J_eq, J_ldI, J_ldI3, J_ldB, J_ldL, J_ldR, J_stI, J_stB, J_stL, J_dv, j_gne, C0, CM, CP, CR, CJ, CS, CL, and_self, and_true, true_and, and_false, false_and, or_true, true_or, or_false, false_or, not_true_eq_false, not_false_eq_true, Option.map_some, J_ltT, J_ltF, J_leT, J_leF, J_eqT, J_eqF, J_ntT, J_ntF, E_Spr_weigh hW, H.get, E_Job_inksOf hW, i1, E_Job_weightOf hW, i2]
    · by_cases z : c + 1 ≤ q
      · exact r6 q z b
      · obtain ⟨y1, y2⟩ := r7 q (by omega)
        have eq : (q : Int) = c := by omega
        rw [y1, y2, show c.toNat = q by omega, jup_same, jup_same, eq]
        exact ⟨rfl, rfl⟩
    · obtain ⟨y1, y2⟩ := r7 q (by omega)
      rw [y1, y2, jup_ne _ _ (by omega), jup_ne _ _ (by omega)]
      exact ⟨rfl, rfl⟩
/-- shy of each other; lighter -/
def shyP (K : Nat → Nat) (c d : Nat) : Prop := K c ≠ 0 ∧ K d ≠ 0 ∧ (K c &&& K d) = 0
def litP (M : Nat → Int) (c d : Nat) : Prop := M c < M d ∨ M c = M d ∧ c < d
theorem p_isShy (hW : xFix V W) {h : xH} {S : Nat → Nat → Int} (H : HP N h S T) {K : Nat → Nat} (hK : ∀ c, c < 64 → S 25 c = (K c : Nat) ∧ K c < 256) {c d : Nat} (hc : c < 64) (hd : d < 64) (dc : Decidable (shyP K c d)) : W m_Spr_isShy (0, [some (.ref (N + 24)), some (.int (Int32.ofInt ((c : Int)))), some (.int (Int32.ofInt ((d : Int))))], []) h = some (.inl (some (jI (if shyP K c d then 1 else 0))), h) := by
  obtain ⟨a1, a2⟩ := hK c hc
  obtain ⟨b1, b2⟩ := hK d hd
  have ja := j_and (a := K c) (b := K d) (by omega) (by omega)
  have la : K c &&& K d ≤ K c := Nat.and_le_left
  by_cases z1 : K c = 0
  · rw [if_neg (show ¬ shyP K c d from fun q => q.1 z1)]
    simp (disch := omega) only [↓reduceIte, S0, S1, J_lt, J_le, J_eq, J_ldI, J_ldI3, J_ldB, J_ldL, J_ldR, J_stI, J_stB, J_stL, J_dv, j_gne, C0, CM, CP, CR, CJ, CS, CL, and_self, and_true, true_and, and_false, false_and, or_true, true_or, or_false, false_or, not_true_eq_false, not_false_eq_true, Option.map_some, J_ltT, J_ltF, J_leT, J_leF, J_eqT, J_eqF, J_ntT, J_ntF, E_Spr_isShy hW, H.get, Int.toNat_natCast, a1, b1]
  · by_cases z2 : K d = 0
    · rw [if_neg (show ¬ shyP K c d from fun q => q.2.1 z2)]
      simp (disch := omega) only [↓reduceIte, S0, S1, J_lt, J_le, J_eq, J_ldI, J_ldI3, J_ldB, J_ldL, J_ldR, J_stI, J_stB, J_stL, J_dv, j_gne, C0, CM, CP, CR, CJ, CS, CL, and_self, and_true, true_and, and_false, false_and, or_true, true_or, or_false, false_or, not_true_eq_false, not_false_eq_true, Option.map_some, J_ltT, J_ltF, J_leT, J_leF, J_eqT, J_eqF, J_ntT, J_ntF, E_Spr_isShy hW, H.get, Int.toNat_natCast, a1, b1]
    · by_cases z3 : (K c &&& K d) = 0
      · rw [if_pos (show shyP K c d from ⟨z1, z2, z3⟩)]
        simp (disch := omega) only [↓reduceIte, S0, S1, J_lt, J_le, J_eq, J_ldI, J_ldI3, J_ldB, J_ldL, J_ldR, J_stI, J_stB, J_stL, J_dv, j_gne, C0, CM, CP, CR, CJ, CS, CL, and_self, and_true, true_and, and_false, false_and, or_true, true_or, or_false, false_or, not_true_eq_false, not_false_eq_true, Option.map_some, J_ltT, J_ltF, J_leT, J_leF, J_eqT, J_eqF, J_ntT, J_ntF, E_Spr_isShy hW, H.get, Int.toNat_natCast, a1, b1, ja]
      · rw [if_neg (show ¬ shyP K c d from fun q => z3 q.2.2)]
        simp (disch := omega) only [↓reduceIte, S0, S1, J_lt, J_le, J_eq, J_ldI, J_ldI3, J_ldB, J_ldL, J_ldR, J_stI, J_stB, J_stL, J_dv, j_gne, C0, CM, CP, CR, CJ, CS, CL, and_self, and_true, true_and, and_false, false_and, or_true, true_or, or_false, false_or, not_true_eq_false, not_false_eq_true, Option.map_some, J_ltT, J_ltF, J_leT, J_leF, J_eqT, J_eqF, J_ntT, J_ntF, E_Spr_isShy hW, H.get, Int.toNat_natCast, a1, b1, ja]
theorem p_isLighter (hW : xFix V W) {h : xH} {S : Nat → Nat → Int} (H : HP N h S T) {M : Nat → Int} (hM : ∀ c, c < 64 → S 26 c = M c ∧ 0 ≤ M c ∧ M c < 1000000) {c d : Nat} (hc : c < 64) (hd : d < 64) (dc : Decidable (litP M c d)) : W m_Spr_isLighter (0, [some (.ref (N + 24)), some (.int (Int32.ofInt ((c : Int)))), some (.int (Int32.ofInt ((d : Int))))], []) h = some (.inl (some (jI (if litP M c d then 1 else 0))), h) := by
  obtain ⟨a1, a2, a3⟩ := hM c hc
  obtain ⟨b1, b2, b3⟩ := hM d hd
  by_cases z1 : M c < M d
  · rw [if_pos (show litP M c d from Or.inl z1)]
    simp (disch := omega) only [↓reduceIte, S0, S1, J_lt, J_le, J_eq, J_ldI, J_ldI3, J_ldB, J_ldL, J_ldR, J_stI, J_stB, J_stL, J_dv, j_gne, C0, CM, CP, CR, CJ, CS, CL, and_self, and_true, true_and, and_false, false_and, or_true, true_or, or_false, false_or, not_true_eq_false, not_false_eq_true, Option.map_some, J_ltT, J_ltF, J_leT, J_leF, J_eqT, J_eqF, J_ntT, J_ntF, E_Spr_isLighter hW, H.get, Int.toNat_natCast, a1, b1]
  · by_cases z2 : M c = M d
    · by_cases z3 : c < d
      · rw [if_pos (show litP M c d from Or.inr ⟨z2, z3⟩)]
        simp (disch := omega) only [↓reduceIte, S0, S1, J_lt, J_le, J_eq, J_ldI, J_ldI3, J_ldB, J_ldL, J_ldR, J_stI, J_stB, J_stL, J_dv, j_gne, C0, CM, CP, CR, CJ, CS, CL, and_self, and_true, true_and, and_false, false_and, or_true, true_or, or_false, false_or, not_true_eq_false, not_false_eq_true, Option.map_some, J_ltT, J_ltF, J_leT, J_leF, J_eqT, J_eqF, J_ntT, J_ntF, E_Spr_isLighter hW, H.get, Int.toNat_natCast, a1, b1, z2]
      · rw [if_neg (show ¬ litP M c d from fun q => q.elim z1 (fun r => z3 r.2))]
        simp (disch := omega) only [↓reduceIte, S0, S1, J_lt, J_le, J_eq, J_ldI, J_ldI3, J_ldB, J_ldL, J_ldR, J_stI, J_stB, J_stL, J_dv, j_gne, C0, CM, CP, CR, CJ, CS, CL, and_self, and_true, true_and, and_false, false_and, or_true, true_or, or_false, false_or, not_true_eq_false, not_false_eq_true, Option.map_some, J_ltT, J_ltF, J_leT, J_leF, J_eqT, J_eqF, J_ntT, J_ntF, E_Spr_isLighter hW, H.get, Int.toNat_natCast, a1, b1, z2]
    · rw [if_neg (show ¬ litP M c d from fun q => q.elim z1 (fun r => z2 r.1))]
      simp (disch := omega) only [↓reduceIte, S0, S1, J_lt, J_le, J_eq, J_ldI, J_ldI3, J_ldB, J_ldL, J_ldR, J_stI, J_stB, J_stL, J_dv, j_gne, C0, CM, CP, CR, CJ, CS, CL, and_self, and_true, true_and, and_false, false_and, or_true, true_or, or_false, false_or, not_true_eq_false, not_false_eq_true, Option.map_some, J_ltT, J_ltF, J_leT, J_leF, J_eqT, J_eqF, J_ntT, J_ntF, E_Spr_isLighter hW, H.get, Int.toNat_natCast, a1, b1]
end TR
