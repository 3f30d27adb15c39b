/-! a run of the cells above N that the screens need -/
def HB (L M N : Nat) (h : xH) (S : Nat → Nat → Int) (T : Nat → Nat → Int64) : Prop := ∀ k, L ≤ k → k < M → h.1 (N + k) = some (cell N k (S k) (T k))
def HF (L M N : Nat) (h h' : xH) : Prop := h'.2 = h.2 ∧ ∀ o, (o < N + L ∨ N + M ≤ o) → h'.1 o = h.1 o
theorem HB.get {L M N : Nat} {h : xH} {S : Nat → Nat → Int} {T : Nat → Nat → Int64} (H : HB L M N h S T) {k : Nat} (hk : L ≤ k ∧ k < M) : h.1 (N + k) = some (cell N k (S k) (T k)) := H k hk.1 hk.2
theorem HB.put {L M N : Nat} {h : xH} {S : Nat → Nat → Int} {T : Nat → Nat → Int64} (H : HB L M N h S T) {k : Nat} (F : Nat → Int) {e : xE} (he : e = cell N k F (T k)) : HB L M N (xset h (N + k) e) (sup S k F) T := by
  intro q h1 h2
  by_cases hqk : q = k
  · subst hqk
    rw [j_get, sup_same, he]
  · rw [j_gne _ _ (by omega), sup_ne _ _ hqk]
    exact H q h1 h2
theorem HF_refl {L M N : Nat} {h : xH} : HF L M N h h := ⟨rfl, fun _ _ => rfl⟩
theorem HF_trans {L M N : Nat} {h h' h'' : xH} (a : HF L M N h h') (b : HF L M N h' h'') : HF L M N h h'' := ⟨b.1.trans a.1, fun o ho => (b.2 o ho).trans (a.2 o ho)⟩
theorem HF_set {L M N k : Nat} {h : xH} {e : xE} (hk : L ≤ k ∧ k < M) : HF L M N h (xset h (N + k) e) := ⟨rfl, fun o ho => by rw [j_gne _ _ (by omega)]⟩
/-! the class's helpers on places -/
theorem j_xor {a b : Int} (h1 : -2147483648 ≤ a) (h2 : a < 2147483648) (h3 : 0 ≤ b) (h4 : b < 2147483648) : (Int32.ofInt 0 ≤ (Int32.ofInt a ^^^ Int32.ofInt b)) = (0 ≤ a) := by
  have e0 : (Int32.ofInt 0).toInt = 0 := rfl
  have ea : (Int32.ofInt a).toInt = a := Int32.toInt_ofInt_of_le (by show (-2147483648 : Int) ≤ a; omega) (by show a < 2147483648; omega)
  have eb : (Int32.ofInt b).toInt = b := Int32.toInt_ofInt_of_le (by show (-2147483648 : Int) ≤ b; omega) (by show b < 2147483648; omega)
  have m : (Int32.ofInt a ^^^ Int32.ofInt b).toBitVec.msb = ((Int32.ofInt a).toBitVec.msb ^^ (Int32.ofInt b).toBitVec.msb) := by rw [Int32.toBitVec_xor, BitVec.msb_xor]
  rw [BitVec.msb_eq_toInt, BitVec.msb_eq_toInt, BitVec.msb_eq_toInt, Int32.toInt_toBitVec, Int32.toInt_toBitVec, Int32.toInt_toBitVec, ea, eb, show decide (b < 0) = false from decide_eq_false (by omega), Bool.xor_false] at m
  have m2 : ((Int32.ofInt a ^^^ Int32.ofInt b).toInt < 0) ↔ a < 0 := decide_eq_decide.mp m
  rw [Int32.le_iff_toInt_le, e0]
  apply propext
  omega
theorem J_xor {a b : Int} (h : (-2147483648 ≤ a ∧ a < 2147483648) ∧ (0 ≤ b ∧ b < 2147483648)) : (Int32.ofInt 0 ≤ (Int32.ofInt a ^^^ Int32.ofInt b)) = (0 ≤ a) := j_xor h.1.1 h.1.2 h.2.1 h.2.2
theorem td_nn {a n : Int} (h : 0 ≤ a) : a.tdiv n = a / n := Int.tdiv_eq_ediv_of_nonneg h
theorem td_neg {a n : Int} (hn : 0 < n) (h : a < 0) : (a.tdiv n * n = a → a.tdiv n = a / n) ∧ (a.tdiv n * n ≠ a → a.tdiv n - 1 = a / n) := by
  have e0 := Int.tmod_add_mul_tdiv a n
  have e1 := Int.lt_tmod_of_pos a hn
  have e3 : n * a.tdiv n = a.tdiv n * n := Int.mul_comm _ _
  have e5 : (-a).tmod n = -(a.tmod n) := Int.neg_tmod a n
  have e6 : 0 ≤ (-a).tmod n := Int.tmod_nonneg n (by omega)
  have e4 : a.tmod n ≤ 0 := by omega
  constructor
  · intro e
    rw [← Int.mul_ediv_cancel (a.tdiv n) (show n ≠ 0 by omega), e]
  · intro e
    symm
    rw [Int.ediv_eq_iff_of_pos hn]
    constructor
    · have : (a.tdiv n - 1) * n = a.tdiv n * n - n := by grind
      omega
    · have : (a.tdiv n - 1) * n = a.tdiv n * n - n := by grind
      omega
section CAS
variable {V : Nat → Value} {W : xWt} {h : xH}
theorem p_abs (hW : xFix V W) {a : Int} (ha : -2147483647 ≤ a ∧ a < 2147483648) : W m_Math_abs (0, [some (.int (Int32.ofInt a))], []) h = some (.inl (some (jI (if a < 0 then -a else a))), h) := by
  by_cases c : a < 0
  · simp (disch := omega) only [↓reduceIte, S0, S1, J_lt, J_le, J_eq, J_ldI, J_ldI3, J_ldB, J_ldL, J_ldR, J_stI, J_stB, J_stL, J_dv, j_gne, C0, CM, CP, CR, CJ, CS, CL, and_self, and_true, true_and, and_false, false_and, or_true, true_or, or_false, false_or, not_true_eq_false, not_false_eq_true, Option.map_some, J_ltT, J_ltF, J_leT, J_leF, J_eqT, J_eqF, J_ntT, J_ntF, E_Math_abs hW]
  · simp (disch := omega) only [↓reduceIte, S0, S1, J_lt, J_le, J_eq, J_ldI, J_ldI3, J_ldB, J_ldL, J_ldR, J_stI, J_stB, J_stL, J_dv, j_gne, C0, CM, CP, CR, CJ, CS, CL, and_self, and_true, true_and, and_false, false_and, or_true, true_or, or_false, false_or, not_true_eq_false, not_false_eq_true, Option.map_some, J_ltT, J_ltF, J_leT, J_leF, J_eqT, J_eqF, J_ntT, J_ntF, E_Math_abs hW]
theorem p_floorDiv (hW : xFix V W) {a n : Int} (ha : -1000000 ≤ a ∧ a ≤ 1000000) (hn : 0 < n ∧ n ≤ 400) : W m_Math_floorDiv (0, [some (.int (Int32.ofInt a)), some (.int (Int32.ofInt n)), none], []) h = some (.inl (some (jI (a / n))), h) := by
  have e0 := Int.tmod_add_mul_tdiv a n
  have e3 : n * a.tdiv n = a.tdiv n * n := Int.mul_comm _ _
  have e1 := Int.lt_tmod_of_pos a hn.1
  have e2 := Int.tmod_lt_of_pos a hn.1
  by_cases c : 0 ≤ a
  · rw [← td_nn c]
    simp (disch := omega) only [↓reduceIte, S0, S1, J_lt, J_le, J_eq, J_ldI, J_ldI3, J_ldB, J_ldL, J_ldR, J_stI, J_stB, J_stL, J_dv, j_gne, C0, CM, CP, CR, CJ, CS, CL, and_self, and_true, true_and, and_false, false_and, or_true, true_or, or_false, false_or, not_true_eq_false, not_false_eq_true, Option.map_some, J_ltT, J_ltF, J_leT, J_leF, J_eqT, J_eqF, J_ntT, J_ntF, E_Math_floorDiv hW, J_tdiv, J_xor]
  · by_cases d : a.tdiv n * n = a
    · rw [← (td_neg hn.1 (by omega)).1 d]
      simp (disch := omega) only [↓reduceIte, S0, S1, J_lt, J_le, J_eq, J_ldI, J_ldI3, J_ldB, J_ldL, J_ldR, J_stI, J_stB, J_stL, J_dv, j_gne, C0, CM, CP, CR, CJ, CS, CL, and_self, and_true, true_and, and_false, false_and, or_true, true_or, or_false, false_or, not_true_eq_false, not_false_eq_true, Option.map_some, J_ltT, J_ltF, J_leT, J_leF, J_eqT, J_eqF, J_ntT, J_ntF, E_Math_floorDiv hW, J_tdiv, J_xor]
    · rw [← (td_neg hn.1 (by omega)).2 d]
      simp (disch := omega) only [↓reduceIte, S0, S1, J_lt, J_le, J_eq, J_ldI, J_ldI3, J_ldB, J_ldL, J_ldR, J_stI, J_stB, J_stL, J_dv, j_gne, C0, CM, CP, CR, CJ, CS, CL, and_self, and_true, true_and, and_false, false_and, or_true, true_or, or_false, false_or, not_true_eq_false, not_false_eq_true, Option.map_some, J_ltT, J_ltF, J_leT, J_leF, J_eqT, J_eqF, J_ntT, J_ntF, E_Math_floorDiv hW, J_tdiv, J_xor]
theorem p_floorMod (hW : xFix V W) {a n : Int} (ha : -1000000 ≤ a ∧ a ≤ 1000000) (hn : 0 < n ∧ n ≤ 400) : W m_Math_floorMod (0, [some (.int (Int32.ofInt a)), some (.int (Int32.ofInt n)), none], []) h = some (.inl (some (jI (a % n))), h) := by
  have e0 := Int.tmod_add_mul_tdiv a n
  have e3 : n * a.tdiv n = a.tdiv n * n := Int.mul_comm _ _
  have e1 := Int.lt_tmod_of_pos a hn.1
  have e2 := Int.tmod_lt_of_pos a hn.1
  have f0 := Int.mul_ediv_add_emod a n
  have f1 : n * (a / n) = a / n * n := Int.mul_comm _ _
  by_cases c : 0 ≤ a
  · have t := td_nn (n := n) c
    rw [show a % n = a - a.tdiv n * n by rw [t]; omega]
    simp (disch := omega) only [↓reduceIte, S0, S1, J_lt, J_le, J_eq, J_ldI, J_ldI3, J_ldB, J_ldL, J_ldR, J_stI, J_stB, J_stL, J_dv, j_gne, C0, CM, CP, CR, CJ, CS, CL, and_self, and_true, true_and, and_false, false_and, or_true, true_or, or_false, false_or, not_true_eq_false, not_false_eq_true, Option.map_some, J_ltT, J_ltF, J_leT, J_leF, J_eqT, J_eqF, J_ntT, J_ntF, E_Math_floorMod hW, J_tdiv, J_xor]
  · by_cases d : a.tdiv n * n = a
    · have t := (td_neg hn.1 (by omega)).1 d
      rw [show a % n = a - a.tdiv n * n by rw [t]; omega]
      simp (disch := omega) only [↓reduceIte, S0, S1, J_lt, J_le, J_eq, J_ldI, J_ldI3, J_ldB, J_ldL, J_ldR, J_stI, J_stB, J_stL, J_dv, j_gne, C0, CM, CP, CR, CJ, CS, CL, and_self, and_true, true_and, and_false, false_and, or_true, true_or, or_false, false_or, not_true_eq_false, not_false_eq_true, Option.map_some, J_ltT, J_ltF, J_leT, J_leF, J_eqT, J_eqF, J_ntT, J_ntF, E_Math_floorMod hW, J_tdiv, J_xor]
    · have t := (td_neg hn.1 (by omega)).2 d
      have t2 : (a.tdiv n - 1) * n = a.tdiv n * n - n := by grind
      rw [show a % n = a - a.tdiv n * n + n by rw [← t] at f1 f0; omega]
      simp (disch := omega) only [↓reduceIte, S0, S1, J_lt, J_le, J_eq, J_ldI, J_ldI3, J_ldB, J_ldL, J_ldR, J_stI, J_stB, J_stL, J_dv, j_gne, C0, CM, CP, CR, CJ, CS, CL, and_self, and_true, true_and, and_false, false_and, or_true, true_or, or_false, false_or, not_true_eq_false, not_false_eq_true, Option.map_some, J_ltT, J_ltF, J_leT, J_leF, J_eqT, J_eqF, J_ntT, J_ntF, E_Math_floorMod hW, J_tdiv, J_xor]
theorem p_xOf (hW : xFix V W) {p : Int} (hp : 0 ≤ p ∧ p < 1681) : W m_Pla_xOf (0, [some (.int (Int32.ofInt p))], []) h = some (.inl (some (jI (px p))), h) := by
  unfold px
  rw [show p % 41 - 20 = p - p / 41 * 41 - 20 by omega]
  simp (disch := omega) only [↓reduceIte, S0, S1, J_lt, J_le, J_eq, J_ldI, J_ldI3, J_ldB, J_ldL, J_ldR, J_stI, J_stB, J_stL, J_dv, j_gne, C0, CM, CP, CR, CJ, CS, CL, and_self, and_true, true_and, and_false, false_and, or_true, true_or, or_false, false_or, not_true_eq_false, not_false_eq_true, Option.map_some, E_Pla_xOf hW, J_div]
theorem p_yOf (hW : xFix V W) {p : Int} (hp : 0 ≤ p ∧ p < 1681) : W m_Pla_yOf (0, [some (.int (Int32.ofInt p))], []) h = some (.inl (some (jI (py p))), h) := by
  unfold py
  simp (disch := omega) only [↓reduceIte, S0, S1, J_lt, J_le, J_eq, J_ldI, J_ldI3, J_ldB, J_ldL, J_ldR, J_stI, J_stB, J_stL, J_dv, j_gne, C0, CM, CP, CR, CJ, CS, CL, and_self, and_true, true_and, and_false, false_and, or_true, true_or, or_false, false_or, not_true_eq_false, not_false_eq_true, Option.map_some, E_Pla_yOf hW, J_div]
theorem p_distanceOf (hW : xFix V W) {p : Int} (hp : 0 ≤ p ∧ p < 1681) : W m_Pla_distanceOf (0, [some (.int (Int32.ofInt p))], []) h = some (.inl (some (jI (dq p))), h) := by
  unfold dq
  simp (disch := omega) only [↓reduceIte, S0, S1, J_lt, J_le, J_eq, J_ldI, J_ldI3, J_ldB, J_ldL, J_ldR, J_stI, J_stB, J_stL, J_dv, j_gne, C0, CM, CP, CR, CJ, CS, CL, and_self, and_true, true_and, and_false, false_and, or_true, true_or, or_false, false_or, not_true_eq_false, not_false_eq_true, Option.map_some, E_Pla_distanceOf hW, p_xOf hW hp, p_yOf hW hp]
theorem p_formOf (hW : xFix V W) {p a b s : Int} (hp : 0 ≤ p ∧ p < 1681) (ha : -20 ≤ a ∧ a ≤ 20) (hb : -20 ≤ b ∧ b ≤ 20) (hs : 0 ≤ s ∧ s < 3) : W m_Pla_formOf (0, [some (.int (Int32.ofInt p)), some (.int (Int32.ofInt a)), some (.int (Int32.ofInt b)), some (.int (Int32.ofInt s))], []) h = some (.inl (some (jI (frm a b s (px p) (py p)))), h) := by
  have bd := px_b hp
  have m1 := mulb ha bd.2.1
  have m2 := mulb hb bd.1
  unfold frm
  by_cases s0 : s = 0
  · have := p_distanceOf (h := h) hW hp
    unfold dq at this
    simp (disch := omega) only [↓reduceIte, S0, S1, J_lt, J_le, J_eq, J_ldI, J_ldI3, J_ldB, J_ldL, J_ldR, J_stI, J_stB, J_stL, J_dv, j_gne, C0, CM, CP, CR, CJ, CS, CL, and_self, and_true, true_and, and_false, false_and, or_true, true_or, or_false, false_or, not_true_eq_false, not_false_eq_true, Option.map_some, J_ltT, J_ltF, J_leT, J_leF, J_eqT, J_eqF, J_ntT, J_ntF, E_Pla_formOf hW, this]
  · by_cases s1 : s = 1
    · rw [if_neg s0, if_pos s1]
      simp (disch := omega) only [↓reduceIte, S0, S1, J_lt, J_le, J_eq, J_ldI, J_ldI3, J_ldB, J_ldL, J_ldR, J_stI, J_stB, J_stL, J_dv, j_gne, C0, CM, CP, CR, CJ, CS, CL, and_self, and_true, true_and, and_false, false_and, or_true, true_or, or_false, false_or, not_true_eq_false, not_false_eq_true, Option.map_some, J_ltT, J_ltF, J_leT, J_leF, J_eqT, J_eqF, J_ntT, J_ntF, E_Pla_formOf hW, p_xOf hW hp, p_yOf hW hp, p_abs hW]
    · rw [if_neg s0, if_neg s1]
      simp (disch := omega) only [↓reduceIte, S0, S1, J_lt, J_le, J_eq, J_ldI, J_ldI3, J_ldB, J_ldL, J_ldR, J_stI, J_stB, J_stL, J_dv, j_gne, C0, CM, CP, CR, CJ, CS, CL, and_self, and_true, true_and, and_false, false_and, or_true, true_or, or_false, false_or, not_true_eq_false, not_false_eq_true, Option.map_some, J_ltT, J_ltF, J_leT, J_leF, J_eqT, J_eqF, J_ntT, J_ntF, E_Pla_formOf hW, p_xOf hW hp, p_yOf hW hp, p_abs hW]
end CAS
