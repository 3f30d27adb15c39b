theorem S1 : (∀ (c : Prop) (d : Decidable c), (Int32.ofInt (@ite _ c d 1 0) = Int32.ofInt 0) = ¬ c) ∧
    (∀ (c : Prop) (d : Decidable c), ((@ite Int c d 1 0) = 0) = ¬ c) ∧ (((1 : Int) = 0) = False) ∧ (((0 : Int) = 0) = True) ∧ ((¬ True) = False) ∧ ((¬ False) = True) ∧
    (∀ (A B : Option xR), (if True then A else B) = A) ∧ (∀ (A B : Option xR), (if False then A else B) = B) ∧
    (∀ (c : Prop) (d : Decidable c) (k : Option xR), xB (decide (Int32.ofInt (@ite _ c d 1 0) = 0 ∨ Int32.ofInt (@ite _ c d 1 0) = 1)) k = k) := by
  refine ⟨fun c d => ?_, fun c d => ?_, by decide, by decide, by decide, by decide, fun _ _ => if_pos trivial, fun _ _ => if_neg id, fun c d k => ?_⟩
  · by_cases hc : c
    · simp only [hc, if_true, not_true]; decide
    · simp only [hc, if_false, not_false_iff]
  · by_cases hc : c
    · simp only [hc, if_true, not_true]; decide
    · simp only [hc, if_false, not_false_iff]
  · by_cases hc : c
    · simp only [hc, if_true]; rfl
    · simp only [hc, if_false]; rfl
section MD
variable {V : Nat → Value} {W : xWt} {N : Nat} {h : xH} {S : Nat → Nat → Int} {T : Nat → Nat → Int64}
theorem q_within (hW : xFix V W) {v a b : Int} {h : xH} (h1 : -2147483648 ≤ v) (h2 : v < 2147483648) (h3 : -2147483648 ≤ a) (h4 : b < 2147483648) (h5 : a < 2147483648) (h6 : -2147483648 ≤ b) :
    W m_Mod_within (0, [some (.int (Int32.ofInt v)), some (.int (Int32.ofInt a)), some (.int (Int32.ofInt b))], []) h = some (.inl (some (jI (if a ≤ v ∧ v ≤ b then 1 else 0))), h) := by
  simp (disch := omega) only [↓reduceIte, S0, S1, J_lt, J_le, J_eq, J_ldI, J_ldI3, J_ldB, J_ldL, J_ldR, J_stI, J_stB, J_stL, J_dv, j_gne, C0, CM, CP, CR, CJ, CS, CL, and_self, and_true, true_and, and_false, false_and, or_true, true_or, or_false, false_or, not_true_eq_false, not_false_eq_true, Option.map_some, E_Mod_within hW]
  by_cases c1 : v < a
  · rw [if_pos c1, if_neg (by omega)]
  · by_cases c2 : b < v
    · rw [if_neg c1, if_pos c2, if_neg (by omega)]
    · rw [if_neg c1, if_neg c2, if_pos (by omega)]
theorem q_isPage (hW : xFix V W) {v : Int} {h : xH} (h1 : -2147483648 ≤ v) (h2 : v < 2147483648) :
    W m_Mod_isPage (0, [some (.int (Int32.ofInt v))], []) h = some (.inl (some (jI (if 0 ≤ v ∧ v ≤ 3 then 1 else 0))), h) := by
  simp (disch := omega) only [↓reduceIte, S0, S1, J_lt, J_le, J_eq, J_ldI, J_ldI3, J_ldB, J_ldL, J_ldR, J_stI, J_stB, J_stL, J_dv, j_gne, C0, CM, CP, CR, CJ, CS, CL, and_self, and_true, true_and, and_false, false_and, or_true, true_or, or_false, false_or, not_true_eq_false, not_false_eq_true, Option.map_some, E_Mod_isPage hW, q_within hW]
theorem q_isCell (hW : xFix V W) {p x y : Int} {h : xH} (h1 : -2147483648 ≤ p) (h2 : p < 2147483648) (h3 : -2147483648 ≤ x) (h4 : x < 2147483648) (h5 : -2147483648 ≤ y) (h6 : y < 2147483648) :
    W m_Mod_isCell (0, [some (.int (Int32.ofInt p)), some (.int (Int32.ofInt x)), some (.int (Int32.ofInt y))], []) h = some (.inl (some (jI (if (0 ≤ p ∧ p ≤ 3) ∧ (0 ≤ x ∧ x ≤ 47) ∧ (0 ≤ y ∧ y ≤ 63) then 1 else 0))), h) := by
  simp (disch := omega) only [↓reduceIte, S0, S1, J_lt, J_le, J_eq, J_ldI, J_ldI3, J_ldB, J_ldL, J_ldR, J_stI, J_stB, J_stL, J_dv, j_gne, C0, CM, CP, CR, CJ, CS, CL, and_self, and_true, true_and, and_false, false_and, or_true, true_or, or_false, false_or, not_true_eq_false, not_false_eq_true, Option.map_some, E_Mod_isCell hW, q_within hW, q_isPage hW]
  by_cases c1 : 0 ≤ p ∧ p ≤ 3
  · by_cases c2 : 0 ≤ x ∧ x ≤ 47
    · by_cases c3 : 0 ≤ y ∧ y ≤ 63
      · simp only [S1, c1, c2, c3, if_true, and_self]
      · simp only [S1, c1, c2, c3, if_true, if_false, and_self, and_false]
    · simp only [S1, c1, c2, if_true, if_false, and_self, and_false, false_and]
  · simp only [S1, c1, if_true, if_false, and_self, and_false, false_and]
theorem q_fail (hW : xFix V W) {c : Int} {F : Nat → Int} {G : Nat → Int64} {h : xH} (H : h.1 (N + 78) = some (cell N 78 F G)) :
    W m_Mod_fail (0, [some (.ref (N + 78)), some (.int (Int32.ofInt c))], []) h = some (.inl (some (jI 0)), xset h (N + 78) (cell N 78 (jup F 0 c) G)) := by
  simp (disch := omega) only [↓reduceIte, S0, S1, J_lt, J_le, J_eq, J_ldI, J_ldI3, J_ldB, J_ldL, J_ldR, J_stI, J_stB, J_stL, J_dv, j_gne, C0, CM, CP, CR, CJ, CS, CL, and_self, and_true, true_and, and_false, false_and, or_true, true_or, or_false, false_or, not_true_eq_false, not_false_eq_true, Option.map_some, E_Mod_fail hW, H]
theorem q_at (hW : xFix V W) {p x y : Int} {h : xH} : W m_Mod_at (0, [some (.int (Int32.ofInt p)), some (.int (Int32.ofInt x)), some (.int (Int32.ofInt y))], []) h = some (.inl (some (jI (3072 * p + 48 * y + x))), h) := by
  simp (disch := omega) only [↓reduceIte, S0, S1, J_lt, J_le, J_eq, J_ldI, J_ldI3, J_ldB, J_ldL, J_ldR, J_stI, J_stB, J_stL, J_dv, j_gne, C0, CM, CP, CR, CJ, CS, CL, and_self, and_true, true_and, and_false, false_and, or_true, true_or, or_false, false_or, not_true_eq_false, not_false_eq_true, Option.map_some, E_Mod_at hW]
theorem q_thrown (hW : xFix V W) {F : Nat → Int} {G : Nat → Int64} {h : xH} (H : h.1 (N + 78) = some (cell N 78 F G)) :
    W m_Mod_thrown (0, [some (.ref (N + 78))], []) h = some (.inl (some (jI (F 0))), h) := by
  simp (disch := omega) only [↓reduceIte, S0, S1, J_lt, J_le, J_eq, J_ldI, J_ldI3, J_ldB, J_ldL, J_ldR, J_stI, J_stB, J_stL, J_dv, j_gne, C0, CM, CP, CR, CJ, CS, CL, and_self, and_true, true_and, and_false, false_and, or_true, true_or, or_false, false_or, not_true_eq_false, not_false_eq_true, Option.map_some, E_Mod_thrown hW, H]
/-- the model's object with its mark set -/
abbrev hth (N : Nat) (h : xH) (S : Nat → Nat → Int) (T : Nat → Nat → Int64) (c : Int) : xH := xset h (N + 78) (cell N 78 (jup (S 78) 0 c) (T 78))
theorem q_spot (hW : xFix V W) {F : Nat → Int} {G : Nat → Int64} {F1 : Nat → Int} (H : h.1 (N + 78) = some (cell N 78 F G)) (H1 : h.1 (N + 79) = some (jA 0 512 F1)) {c i v : Int} (h1 : 0 ≤ c) (h2 : c < 64) (h3 : 0 ≤ i) (h4 : i < 8) (h5 : 0 ≤ v) (h6 : v ≤ 255) (hA : ∀ k, k < 512 → 0 ≤ F1 k ∧ F1 k ≤ 255) : ∀ (n : Nat) (k : Int), k = 8 - n → 4 ≤ k →
    W m_Mod_colour (51, [some (.ref (N + 78)), some (.int (Int32.ofInt c)), some (.int (Int32.ofInt i)), some (.int (Int32.ofInt v)), some (.int (Int32.ofInt k))], []) h = if 0 < v ∧ 4 ≤ i ∧ spot F1 c i n k = true then some (.inl (some (jI 0)), xset h (N + 78) (cell N 78 (jup F 0 3) G)) else W m_Mod_colour (100, [some (.ref (N + 78)), some (.int (Int32.ofInt c)), some (.int (Int32.ofInt i)), some (.int (Int32.ofInt v)), some (.int (Int32.ofInt 8))], []) h := by
  intro n
  induction n with
  | zero =>
    intro k hk _
    have hk8 : k = 8 := by omega
    rw [L_Mod_colour_51 hW, hk8]
    simp (disch := omega) only [↓reduceIte, S0, S1, J_lt, J_le, J_eq, J_ldI, J_ldI3, J_ldB, J_ldL, J_ldR, J_stI, J_stB, J_stL, J_dv, j_gne, C0, CM, CP, CR, CJ, CS, CL, and_self, and_true, true_and, and_false, false_and, or_true, true_or, or_false, false_or, not_true_eq_false, not_false_eq_true, Option.map_some, if_pos]
    simp [spot]
  | succ n ih =>
    intro k hk h4k
    rw [L_Mod_colour_51 hW]
    have hb := hA (c * 8 + k).toNat (by omega)
    have ih1 := ih (k + 1) (by omega) (by omega)
    simp (disch := omega) only [j_le, if_neg]
    have fin : W m_Mod_colour (94, [some (.ref (N + 78)), some (.int (Int32.ofInt c)), some (.int (Int32.ofInt i)), some (.int (Int32.ofInt v)), some (.int (Int32.ofInt k))], []) h = if 0 < v ∧ 4 ≤ i ∧ spot F1 c i n (k + 1) = true then some (.inl (some (jI 0)), xset h (N + 78) (cell N 78 (jup F 0 3) G)) else W m_Mod_colour (100, [some (.ref (N + 78)), some (.int (Int32.ofInt c)), some (.int (Int32.ofInt i)), some (.int (Int32.ofInt v)), some (.int (Int32.ofInt 8))], []) h := by
      rw [← ih1]
      simp only [E_Mod_colour hW, S0]
    have s1 : W m_Mod_colour (58, [some (.ref (N + 78)), some (.int (Int32.ofInt c)), some (.int (Int32.ofInt i)), some (.int (Int32.ofInt v)), some (.int (Int32.ofInt k))], []) h = if v ≤ 0 then W m_Mod_colour (94, [some (.ref (N + 78)), some (.int (Int32.ofInt c)), some (.int (Int32.ofInt i)), some (.int (Int32.ofInt v)), some (.int (Int32.ofInt k))], []) h else if i ≤ 3 then W m_Mod_colour (94, [some (.ref (N + 78)), some (.int (Int32.ofInt c)), some (.int (Int32.ofInt i)), some (.int (Int32.ofInt v)), some (.int (Int32.ofInt k))], []) h else if k = i then W m_Mod_colour (94, [some (.ref (N + 78)), some (.int (Int32.ofInt c)), some (.int (Int32.ofInt i)), some (.int (Int32.ofInt v)), some (.int (Int32.ofInt k))], []) h else if F1 (c * 8 + k).toNat ≤ 0 then W m_Mod_colour (94, [some (.ref (N + 78)), some (.int (Int32.ofInt c)), some (.int (Int32.ofInt i)), some (.int (Int32.ofInt v)), some (.int (Int32.ofInt k))], []) h else some (.inl (some (jI 0)), xset h (N + 78) (cell N 78 (jup F 0 3) G)) := by
      simp (disch := omega) only [↓reduceIte, S0, S1, J_lt, J_le, J_eq, J_ldI, J_ldI3, J_ldB, J_ldL, J_ldR, J_stI, J_stB, J_stL, J_dv, j_gne, C0, CM, CP, CR, CJ, CS, CL, and_self, and_true, true_and, and_false, false_and, or_true, true_or, or_false, false_or, not_true_eq_false, not_false_eq_true, Option.map_some, E_Mod_colour hW, H, H1, q_fail hW H, Int.mul_comm 8 c]
    rw [s1, fin]
    by_cases e0 : 0 < v
    · by_cases e1 : 4 ≤ i
      · by_cases e2 : k = i
        · simp [e2, spot]
        · by_cases e3 : F1 (c * 8 + k).toNat ≤ 0
          · simp [e2, e3, spot, Int.not_lt.mpr e3]
          · simp [e0, e1, e2, e3, spot, Int.not_le.mp e3, Int.not_le.mpr e0, show ¬ i ≤ 3 by omega]
      · simp [e1, show i ≤ 3 by omega]
    · simp [e0, Int.not_lt.mp e0]
theorem q_colour (hW : xFix V W) (H : HP N h S T) {c i v : Int} (hc : j32 c) (hi : j32 i) (hv : j32 v) (hA : ∀ k, k < 512 → 0 ≤ S 79 k ∧ S 79 k ≤ 255) :
    W m_Mod_colour (0, [some (.ref (N + 78)), some (.int (Int32.ofInt c)), some (.int (Int32.ofInt i)), some (.int (Int32.ofInt v)), none], []) h =
      if (0 ≤ c ∧ c < 64) ∧ (0 ≤ i ∧ i < 8) then (if 0 ≤ v ∧ v ≤ 255 then (if 0 < v ∧ 4 ≤ i ∧ spot (S 79) c i 4 4 = true then some (.inl (some (jI 0)), hth N h S T 3) else some (.inl (some (jI (S 79 (c * 8 + i).toNat))), xset (hth N h S T 0) (N + 79) (jA 0 512 (jup (S 79) (c * 8 + i).toNat v)))) else some (.inl (some (jI 0)), hth N h S T 2)) else some (.inl (some (jI 0)), hth N h S T 1) := by
  have g1 : (hth N h S T 0).1 (N + 78) = some (cell N 78 (jup (S 78) 0 0) (T 78)) := j_get _ _ _
  have g2 : (hth N h S T 0).1 (N + 79) = some (jA 0 512 (S 79)) := by rw [j_gne _ _ (by omega)]; exact H.get (by omega)
  have s0 : W m_Mod_colour (0, [some (.ref (N + 78)), some (.int (Int32.ofInt c)), some (.int (Int32.ofInt i)), some (.int (Int32.ofInt v)), none], []) h = W m_Mod_colour (5, [some (.ref (N + 78)), some (.int (Int32.ofInt c)), some (.int (Int32.ofInt i)), some (.int (Int32.ofInt v)), none], []) (hth N h S T 0) := by
    rw [(E_Mod_colour hW).1]
    simp (disch := omega) only [↓reduceIte, S0, S1, J_lt, J_le, J_eq, J_ldI, J_ldI3, J_ldB, J_ldL, J_ldR, J_stI, J_stB, J_stL, J_dv, j_gne, C0, CM, CP, CR, CJ, CS, CL, and_self, and_true, true_and, and_false, false_and, or_true, true_or, or_false, false_or, not_true_eq_false, not_false_eq_true, Option.map_some, H.get]
  have f1 : ∀ z : Int, W m_Mod_fail (0, [some (.ref (N + 78)), some (.int (Int32.ofInt z))], []) (hth N h S T 0) = some (.inl (some (jI 0)), hth N h S T z) := fun z => by
    rw [q_fail hW g1, j_ss, jup_jup]
  rw [s0]
  by_cases a1 : 0 ≤ c ∧ c < 64
  · by_cases a2 : 0 ≤ i ∧ i < 8
    · by_cases a3 : 0 ≤ v ∧ v ≤ 255
      · have hb := hA (c * 8 + i).toNat (by omega)
        have sp := q_spot hW g1 g2 a1.1 a1.2 a2.1 a2.2 a3.1 a3.2 hA 4 4 (by omega) (by omega)
        simp (disch := omega) only [↓reduceIte, S0, S1, J_lt, J_le, J_eq, J_ldI, J_ldI3, J_ldB, J_ldL, J_ldR, J_stI, J_stB, J_stL, J_dv, j_gne, C0, CM, CP, CR, CJ, CS, CL, and_self, and_true, true_and, and_false, false_and, or_true, true_or, or_false, false_or, not_true_eq_false, not_false_eq_true, Option.map_some, E_Mod_colour hW, q_within hW, show 0 ≤ c ∧ c ≤ 63 by omega, show 0 ≤ i ∧ i ≤ 7 by omega, a3, a1, a2, not_true, if_false, if_true, and_self, sp, j_ss, jup_jup, H.get, Int.mul_comm 8 c]
      · simp (disch := omega) only [↓reduceIte, S0, S1, J_lt, J_le, J_eq, J_ldI, J_ldI3, J_ldB, J_ldL, J_ldR, J_stI, J_stB, J_stL, J_dv, j_gne, C0, CM, CP, CR, CJ, CS, CL, and_self, and_true, true_and, and_false, false_and, or_true, true_or, or_false, false_or, not_true_eq_false, not_false_eq_true, Option.map_some, E_Mod_colour hW, q_within hW, show 0 ≤ c ∧ c ≤ 63 by omega, show 0 ≤ i ∧ i ≤ 7 by omega, a3, a1, a2, not_true, not_false_iff, if_false, if_true, and_self, f1, g1]
    · simp (disch := omega) only [↓reduceIte, S0, S1, J_lt, J_le, J_eq, J_ldI, J_ldI3, J_ldB, J_ldL, J_ldR, J_stI, J_stB, J_stL, J_dv, j_gne, C0, CM, CP, CR, CJ, CS, CL, and_self, and_true, true_and, and_false, false_and, or_true, true_or, or_false, false_or, not_true_eq_false, not_false_eq_true, Option.map_some, E_Mod_colour hW, q_within hW, show 0 ≤ c ∧ c ≤ 63 by omega, show ¬ (0 ≤ i ∧ i ≤ 7) by omega, a1, a2, not_true, not_false_iff, if_false, if_true, and_self, and_false, f1, g1]
  · simp (disch := omega) only [↓reduceIte, S0, S1, J_lt, J_le, J_eq, J_ldI, J_ldI3, J_ldB, J_ldL, J_ldR, J_stI, J_stB, J_stL, J_dv, j_gne, C0, CM, CP, CR, CJ, CS, CL, and_self, and_true, true_and, and_false, false_and, or_true, true_or, or_false, false_or, not_true_eq_false, not_false_eq_true, Option.map_some, E_Mod_colour hW, q_within hW, show ¬ (0 ≤ c ∧ c ≤ 63) by omega, a1, not_true, not_false_iff, if_false, if_true, and_self, and_false, false_and, f1, g1]
end MD
