/-! the class: divisor, shift, the number of a tile place -/
theorem tm0 {a d : Int} (hd : 0 < d) : a - a.tdiv d * d = 0 ↔ a % d = 0 := by
  constructor
  · intro e
    rw [show a = a.tdiv d * d by omega]
    exact Int.mul_emod_left _ _
  · intro e
    obtain ⟨q, hq⟩ := Int.dvd_of_emod_eq_zero e
    have : a.tdiv d = q := by rw [hq]; exact Int.mul_tdiv_cancel_left _ (by omega)
    rw [this, hq, Int.mul_comm]; omega
theorem tmb {a d : Int} (hd : 0 < d) : -d < a - a.tdiv d * d ∧ a - a.tdiv d * d < d := by
  have e0 := Int.tmod_add_mul_tdiv a d
  have e3 : d * a.tdiv d = a.tdiv d * d := Int.mul_comm _ _
  have e1 := Int.lt_tmod_of_pos a hd
  have e2 := Int.tmod_lt_of_pos a hd
  omega
section CCS
variable {V : Nat → Value} {W : xWt} {N M : Nat} {T : Nat → Nat → Int64} {S : Nat → Nat → Int} {h : xH}
theorem p_gdL (hW : xFix V W) {a b : Int} (ha : -20 ≤ a ∧ a ≤ 20) (hb : -20 ≤ b ∧ b ≤ 20) : ∀ d : Nat, 1 ≤ d → d ≤ 20 → W m_Scr_greatestDivisor (3, [some (.int (Int32.ofInt a)), some (.int (Int32.ofInt b)), some (.int (Int32.ofInt ((d : Int))))], []) h = some (.inl (some (jI (gdv a b d))), h) := by
  intro d
  induction d with
  | zero => intro h1; omega
  | succ d ih =>
    intro d1 d2
    have gs : gdv a b (d + 1) = if (1 : Int) < (d : Int) + 1 ∧ (a % ((d : Int) + 1) ≠ 0 ∨ b % ((d : Int) + 1) ≠ 0) then gdv a b d else (d : Int) + 1 := rfl
    rw [gs, L_Scr_greatestDivisor_3 hW, show (((d + 1 : Nat)) : Int) = (d : Int) + 1 from rfl]
    clear gs
    by_cases c0 : d = 0
    · subst c0
      have ev : (if (1 : Int) < ((0 : Nat) : Int) + 1 ∧ (a % (((0 : Nat) : Int) + 1) ≠ 0 ∨ b % (((0 : Nat) : Int) + 1) ≠ 0) then gdv a b 0 else ((0 : Nat) : Int) + 1) = 1 := by rw [if_neg (by omega)]; rfl
      rw [ev, show ((0 : Nat) : Int) + 1 = 1 from rfl]
      simp (disch := omega) only [↓reduceIte, S0, S1, J_lt, J_le, J_eq, J_ldI, J_ldI3, J_ldB, J_ldL, J_ldR, J_stI, J_stB, J_stL, J_dv, j_gne, C0, CM, CP, CR, CJ, CS, CL, and_self, and_true, true_and, and_false, false_and, or_true, true_or, or_false, false_or, not_true_eq_false, not_false_eq_true, Option.map_some, J_ltT, J_ltF, J_leT, J_leF, J_eqT, J_eqF, J_ntT, J_ntF, E_Scr_greatestDivisor hW]
    · have ih1 := ih (by omega) (by omega)
      have t1 := tmb (a := a) (d := (d : Int) + 1) (by omega)
      have t2 := tmb (a := b) (d := (d : Int) + 1) (by omega)
      have z1 := tm0 (a := a) (d := (d : Int) + 1) (by omega)
      have z2 := tm0 (a := b) (d := (d : Int) + 1) (by omega)
      have e1 : (d : Int) + 1 + -1 = d := by omega
      by_cases c1 : a % ((d : Int) + 1) = 0
      · by_cases c2 : b % ((d : Int) + 1) = 0
        · have ev : (if (1 : Int) < (d : Int) + 1 ∧ (a % ((d : Int) + 1) ≠ 0 ∨ b % ((d : Int) + 1) ≠ 0) then gdv a b d else (d : Int) + 1) = (d : Int) + 1 := if_neg (fun q => q.2.elim (fun w => w c1) (fun w => w c2))
          rw [ev]
          have y1 := z1.mpr c1
          have y2 := z2.mpr c2
          simp (disch := omega) only [↓reduceIte, S0, S1, J_lt, J_le, J_eq, J_ldI, J_ldI3, J_ldB, J_ldL, J_ldR, J_stI, J_stB, J_stL, J_dv, j_gne, C0, CM, CP, CR, CJ, CS, CL, and_self, and_true, true_and, and_false, false_and, or_true, true_or, or_false, false_or, not_true_eq_false, not_false_eq_true, Option.map_some, J_ltT, J_ltF, J_leT, J_leF, J_eqT, J_eqF, J_ntT, J_ntF, E_Scr_greatestDivisor hW, J_tdiv]
        · have ev : (if (1 : Int) < (d : Int) + 1 ∧ (a % ((d : Int) + 1) ≠ 0 ∨ b % ((d : Int) + 1) ≠ 0) then gdv a b d else (d : Int) + 1) = gdv a b d := if_pos ⟨by omega, Or.inr c2⟩
          rw [ev]
          have y1 := z1.mpr c1
          have y2 : ¬ b - b.tdiv ((d : Int) + 1) * ((d : Int) + 1) = 0 := fun q => c2 (z2.mp q)
          simp (disch := omega) only [↓reduceIte, S0, S1, J_lt, J_le, J_eq, J_ldI, J_ldI3, J_ldB, J_ldL, J_ldR, J_stI, J_stB, J_stL, J_dv, j_gne, C0, CM, CP, CR, CJ, CS, CL, and_self, and_true, true_and, and_false, false_and, or_true, true_or, or_false, false_or, not_true_eq_false, not_false_eq_true, Option.map_some, J_ltT, J_ltF, J_leT, J_leF, J_eqT, J_eqF, J_ntT, J_ntF, E_Scr_greatestDivisor hW, J_tdiv, e1, ih1]
      · have ev : (if (1 : Int) < (d : Int) + 1 ∧ (a % ((d : Int) + 1) ≠ 0 ∨ b % ((d : Int) + 1) ≠ 0) then gdv a b d else (d : Int) + 1) = gdv a b d := if_pos ⟨by omega, Or.inl c1⟩
        rw [ev]
        have y1 : ¬ a - a.tdiv ((d : Int) + 1) * ((d : Int) + 1) = 0 := fun q => c1 (z1.mp q)
        simp (disch := omega) only [↓reduceIte, S0, S1, J_lt, J_le, J_eq, J_ldI, J_ldI3, J_ldB, J_ldL, J_ldR, J_stI, J_stB, J_stL, J_dv, j_gne, C0, CM, CP, CR, CJ, CS, CL, and_self, and_true, true_and, and_false, false_and, or_true, true_or, or_false, false_or, not_true_eq_false, not_false_eq_true, Option.map_some, J_ltT, J_ltF, J_leT, J_leF, J_eqT, J_eqF, J_ntT, J_ntF, E_Scr_greatestDivisor hW, J_tdiv, e1, ih1]
theorem p_greatestDivisor (hW : xFix V W) {a b : Int} (ha : -20 ≤ a ∧ a ≤ 20) (hb : -20 ≤ b ∧ b ≤ 20) : W m_Scr_greatestDivisor (0, [some (.int (Int32.ofInt a)), some (.int (Int32.ofInt b)), none], []) h = some (.inl (some (jI (gdv a b 20))), h) := by
  have := p_gdL (h := h) hW ha hb 20 (by omega) (by omega)
  rw [← this]
  simp (disch := omega) only [↓reduceIte, S0, S1, J_lt, J_le, J_eq, J_ldI, J_ldI3, J_ldB, J_ldL, J_ldR, J_stI, J_stB, J_stL, J_dv, j_gne, C0, CM, CP, CR, CJ, CS, CL, and_self, and_true, true_and, and_false, false_and, or_true, true_or, or_false, false_or, not_true_eq_false, not_false_eq_true, Option.map_some, E_Scr_greatestDivisor hW]
  rfl
theorem p_isOfLattice (hW : xFix V W) {i : Nat} (hi : i < 8) (hM : 38 + 3 * i ≤ M) (H : HB 31 M N h S T) {n x y a b : Int} (en : S (35 + 3 * i) 3 = n) (hn : 1 ≤ n ∧ n ≤ 400) (ha : -20 ≤ a ∧ a ≤ 20) (hb : -20 ≤ b ∧ b ≤ 20) (hx : -1000 ≤ x ∧ x ≤ 1000) (hy : -1000 ≤ y ∧ y ≤ 1000) :
    W m_Scr_isOfLattice (0, [some (.ref (N + (35 + 3 * i))), some (.int (Int32.ofInt x)), some (.int (Int32.ofInt y)), some (.int (Int32.ofInt a)), some (.int (Int32.ofInt b))], []) h = some (.inl (some (jI (if (a * x + b * y) % n = 0 ∧ (a * y - b * x) % n = 0 then 1 else 0))), h) := by
  have m1 := mulb ha hx
  have m2 := mulb hb hy
  have m3 := mulb ha hy
  have m4 := mulb hb hx
  have t1 := tmb (a := a * x + b * y) (d := n) (by omega)
  have t2 := tmb (a := a * y - b * x) (d := n) (by omega)
  have z1 := tm0 (a := a * x + b * y) (d := n) (by omega)
  have z2 := tm0 (a := a * y - b * x) (d := n) (by omega)
  by_cases c1 : (a * x + b * y) % n = 0
  · have y1 := z1.mpr c1
    by_cases c2 : (a * y - b * x) % n = 0
    · have y2 := z2.mpr c2
      rw [if_pos ⟨c1, c2⟩]
      simp (disch := omega) only [↓reduceIte, S0, S1, J_lt, J_le, J_eq, J_ldI, J_ldI3, J_ldB, J_ldL, J_ldR, J_stI, J_stB, J_stL, J_dv, j_gne, C0, CM, CP, CR, CJ, CS, CL, and_self, and_true, true_and, and_false, false_and, or_true, true_or, or_false, false_or, not_true_eq_false, not_false_eq_true, Option.map_some, J_ltT, J_ltF, J_leT, J_leF, J_eqT, J_eqF, J_ntT, J_ntF, E_Scr_isOfLattice hW, H.get, en, J_tdiv]
    · have y2 : ¬ a * y - b * x - (a * y - b * x).tdiv n * n = 0 := fun q => c2 (z2.mp q)
      rw [if_neg (fun q => c2 q.2)]
      simp (disch := omega) only [↓reduceIte, S0, S1, J_lt, J_le, J_eq, J_ldI, J_ldI3, J_ldB, J_ldL, J_ldR, J_stI, J_stB, J_stL, J_dv, j_gne, C0, CM, CP, CR, CJ, CS, CL, and_self, and_true, true_and, and_false, false_and, or_true, true_or, or_false, false_or, not_true_eq_false, not_false_eq_true, Option.map_some, J_ltT, J_ltF, J_leT, J_leF, J_eqT, J_eqF, J_ntT, J_ntF, E_Scr_isOfLattice hW, H.get, en, J_tdiv]
  · have y1 : ¬ a * x + b * y - (a * x + b * y).tdiv n * n = 0 := fun q => c1 (z1.mp q)
    rw [if_neg (fun q => c1 q.1)]
    simp (disch := omega) only [↓reduceIte, S0, S1, J_lt, J_le, J_eq, J_ldI, J_ldI3, J_ldB, J_ldL, J_ldR, J_stI, J_stB, J_stL, J_dv, j_gne, C0, CM, CP, CR, CJ, CS, CL, and_self, and_true, true_and, and_false, false_and, or_true, true_or, or_false, false_or, not_true_eq_false, not_false_eq_true, Option.map_some, J_ltT, J_ltF, J_leT, J_leF, J_eqT, J_eqF, J_ntT, J_ntF, E_Scr_isOfLattice hW, H.get, en, J_tdiv]
theorem p_shL (hW : xFix V W) {i : Nat} (hi : i < 8) (hM : 38 + 3 * i ≤ M) (H : HB 31 M N h S T) {n g a b : Int} {t0 : Nat} (en : S (35 + 3 * i) 3 = n) (eg : S (35 + 3 * i) 4 = g) (hn : 1 ≤ n ∧ n ≤ 400) (hg : 0 < g ∧ g ≤ 20) (ha : -20 ≤ a ∧ a ≤ 20) (hb : -20 ≤ b ∧ b ≤ 20) (ht : (t0 : Int) < n ∧ (a * t0 + b * g) % n = 0 ∧ (a * g - b * t0) % n = 0) :
    ∀ (r k : Nat), k + r = t0 → ∃ t : Nat, W m_Scr_shiftOfRows (2, [some (.ref (N + (35 + 3 * i))), some (.int (Int32.ofInt a)), some (.int (Int32.ofInt b)), some (.int (Int32.ofInt ((k : Int))))], []) h = some (.inl (some (jI t)), h) ∧ (t : Int) < n ∧ (a * t + b * g) % n = 0 ∧ (a * g - b * t) % n = 0 := by
  intro r
  induction r with
  | zero =>
    intro k hk
    have : k = t0 := by omega
    subst this
    have il := p_isOfLattice hW hi hM H en hn ha hb (x := k) (y := g) (by omega) (by omega)
    rw [if_pos ht.2] at il
    refine ⟨k, ?_, ht⟩
    rw [L_Scr_shiftOfRows_2 hW]
    simp (disch := omega) only [↓reduceIte, S0, S1, J_lt, J_le, J_eq, J_ldI, J_ldI3, J_ldB, J_ldL, J_ldR, J_stI, J_stB, J_stL, J_dv, j_gne, C0, CM, CP, CR, CJ, CS, CL, and_self, and_true, true_and, and_false, false_and, or_true, true_or, or_false, false_or, not_true_eq_false, not_false_eq_true, Option.map_some, J_ltT, J_ltF, J_leT, J_leF, J_eqT, J_eqF, J_ntT, J_ntF, E_Scr_shiftOfRows hW, H.get, en, eg, il]
  | succ r ih =>
    intro k hk
    have il := p_isOfLattice hW hi hM H en hn ha hb (x := k) (y := g) (by omega) (by omega)
    by_cases c : (a * k + b * g) % n = 0 ∧ (a * g - b * k) % n = 0
    · rw [if_pos c] at il
      refine ⟨k, ?_, by omega, c⟩
      rw [L_Scr_shiftOfRows_2 hW]
      simp (disch := omega) only [↓reduceIte, S0, S1, J_lt, J_le, J_eq, J_ldI, J_ldI3, J_ldB, J_ldL, J_ldR, J_stI, J_stB, J_stL, J_dv, j_gne, C0, CM, CP, CR, CJ, CS, CL, and_self, and_true, true_and, and_false, false_and, or_true, true_or, or_false, false_or, not_true_eq_false, not_false_eq_true, Option.map_some, J_ltT, J_ltF, J_leT, J_leF, J_eqT, J_eqF, J_ntT, J_ntF, E_Scr_shiftOfRows hW, H.get, en, eg, il]
    · rw [if_neg c] at il
      obtain ⟨t, w1, w2⟩ := ih (k + 1) (by omega)
      refine ⟨t, ?_, w2⟩
      rw [← w1, L_Scr_shiftOfRows_2 hW]
      simp (disch := omega) only [↓reduceIte, S0, S1, J_lt, J_le, J_eq, J_ldI, J_ldI3, J_ldB, J_ldL, J_ldR, J_stI, J_stB, J_stL, J_dv, j_gne, C0, CM, CP, CR, CJ, CS, CL, and_self, and_true, true_and, and_false, false_and, or_true, true_or, or_false, false_or, not_true_eq_false, not_false_eq_true, Option.map_some, J_ltT, J_ltF, J_leT, J_leF, J_eqT, J_eqF, J_ntT, J_ntF, E_Scr_shiftOfRows hW, H.get, en, eg, il]
      rfl
theorem p_shiftOfRows (hW : xFix V W) {i : Nat} (hi : i < 8) (hM : 38 + 3 * i ≤ M) (H : HB 31 M N h S T) {n g a b t0 : Int} (en : S (35 + 3 * i) 3 = n) (eg : S (35 + 3 * i) 4 = g) (hn : 1 ≤ n ∧ n ≤ 400) (hg : 0 < g ∧ g ≤ 20) (ha : -20 ≤ a ∧ a ≤ 20) (hb : -20 ≤ b ∧ b ≤ 20) (ht : (0 ≤ t0 ∧ t0 < n) ∧ (n ∣ a * t0 + b * g) ∧ n ∣ a * g - b * t0) :
    ∃ t : Int, W m_Scr_shiftOfRows (0, [some (.ref (N + (35 + 3 * i))), some (.int (Int32.ofInt a)), some (.int (Int32.ofInt b)), none], []) h = some (.inl (some (jI t)), h) ∧ (0 ≤ t ∧ t < n) ∧ (n ∣ a * t + b * g) ∧ n ∣ a * g - b * t := by
  have e : ((t0.toNat : Nat) : Int) = t0 := by omega
  obtain ⟨t, w1, w2, w3, w4⟩ := p_shL hW hi hM H en eg hn hg ha hb (t0 := t0.toNat) (by rw [e]; exact ⟨ht.1.2, Int.emod_eq_zero_of_dvd ht.2.1, Int.emod_eq_zero_of_dvd ht.2.2⟩) t0.toNat 0 (by omega)
  refine ⟨t, ?_, by omega, Int.dvd_of_emod_eq_zero w3, Int.dvd_of_emod_eq_zero w4⟩
  rw [← w1]
  simp (disch := omega) only [↓reduceIte, S0, S1, J_lt, J_le, J_eq, J_ldI, J_ldI3, J_ldB, J_ldL, J_ldR, J_stI, J_stB, J_stL, J_dv, j_gne, C0, CM, CP, CR, CJ, CS, CL, and_self, and_true, true_and, and_false, false_and, or_true, true_or, or_false, false_or, not_true_eq_false, not_false_eq_true, Option.map_some, E_Scr_shiftOfRows hW]
  rfl
theorem p_classAt (hW : xFix V W) {i : Nat} (hi : i < 8) (hM : 38 + 3 * i ≤ M) (H : HB 31 M N h S T) {n g t c x y : Int} (en : S (35 + 3 * i) 3 = n) (eg : S (35 + 3 * i) 4 = g) (et : S (35 + 3 * i) 5 = t) (hn : 1 ≤ n ∧ n ≤ 400) (hg : 0 < g ∧ g ≤ 20) (hc : n = g * c) (ht : 0 ≤ t ∧ t < n) (hx : -1000 ≤ x ∧ x ≤ 1000) (hy : -1000 ≤ y ∧ y ≤ 1000) :
    W m_Scr_classAt (0, [some (.ref (N + (35 + 3 * i))), some (.int (Int32.ofInt x)), some (.int (Int32.ofInt y)), none, none], []) h = some (.inl (some (jI (cix n g t x y))), h) := by
  obtain ⟨c0, e0, y1, x1, -⟩ := cix_b (t := t) (x := x) (y := y) hg.1 hc (by omega)
  have c4 : c ≤ 400 := by
    have := Int.mul_le_mul_of_nonneg_right (a := 1) (b := g) (c := c) (by omega) (by omega)
    omega
  have y0 := Int.mul_ediv_add_emod y g
  have yb : -1000 ≤ y / g ∧ y / g ≤ 1000 := by
    constructor
    · exact Int.le_ediv_of_mul_le hg.1 (by omega)
    · exact Int.le_of_lt_add_one (Int.ediv_lt_of_lt_mul hg.1 (by omega))
  have m1 := mulb (A := 1000) (B := 400) yb (y := t) (by omega)
  have fd := p_floorDiv (h := h) hW (a := y) (n := g) (by omega) (by omega)
  have fm := p_floorMod (h := h) hW (a := x - y / g * t) (n := c) (by omega) (by omega)
  unfold cix
  rw [e0]
  simp (disch := omega) only [↓reduceIte, S0, S1, J_lt, J_le, J_eq, J_ldI, J_ldI3, J_ldB, J_ldL, J_ldR, J_stI, J_stB, J_stL, J_dv, j_gne, C0, CM, CP, CR, CJ, CS, CL, and_self, and_true, true_and, and_false, false_and, or_true, true_or, or_false, false_or, not_true_eq_false, not_false_eq_true, Option.map_some, E_Scr_classAt hW, H.get, en, eg, et, J_div, e0, fd, fm]
end CCS
