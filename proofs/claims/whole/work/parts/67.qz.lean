theorem cq_add (F : Nat → Int) : ∀ (a b k : Nat), cq F (a + b) k = cq F a k + cq F b (k + a)
  | 0, b, k => by rw [Nat.zero_add]; show cq F b k = 0 + cq F b k; omega
  | a + 1, b, k => by
    rw [show a + 1 + b = (a + b) + 1 by omega]
    show (if F k = -1 then 0 else 1) + cq F (a + b) (k + 1) = (if F k = -1 then 0 else 1) + cq F a (k + 1) + cq F b (k + (a + 1))
    rw [cq_add F a b (k + 1), show k + 1 + a = k + (a + 1) by omega]
    omega
section QZ
variable {V : Nat → Value} {W : xWt} {N : Nat} {T : Nat → Nat → Int64}
theorem q_trapY (hW : xFix V W) {p w : Int} (hp : 0 ≤ p ∧ p < 4) (hw : 1 ≤ w ∧ w ≤ 3) {D A : Nat → Int} (hD : ∀ q, q < 12288 → (3072 * p.toNat ≤ q ∧ q < 3072 * p.toNat + 3072) → 0 ≤ D q ∧ D q < 64) (hA : ∀ j, j < 512 → 0 ≤ A (512 * p.toNat + j) ∧ A (512 * p.toNat + j) ≤ 255) : ∀ (n : Nat) (y : Int) (h : xH) (S : Nat → Nat → Int) (m : Int) (u5 u6 : Option Value), HP N h S T → S 83 = D → S 84 = A → 0 ≤ y → y + n = 64 →
    ∃ h' S', W m_Mod_trap (69, [some (.ref (N + 78)), some (.int (Int32.ofInt p)), some (.int (Int32.ofInt w)), some (.int (Int32.ofInt m)), some (.int (Int32.ofInt y)), u5, u6], []) h = some (.inl (some (jI (m + cq (fun q => S' 85 (3072 * p.toNat + q) - 1) (48 * n) (48 * y).toNat))), h') ∧ HP N h' S' T ∧ h'.2 = h.2 ∧ (∀ k, k ≠ 85 → S' k = S k) ∧ (∀ q : Nat, ((q : Int) < 3072 * p + 48 * y ∨ 3072 * p + 3072 ≤ (q : Int)) → S' 85 q = S 85 q) ∧ ∀ y' x', y ≤ y' → y' < 64 → 0 ≤ x' → x' < 48 → TVr (RQ (S 83) (QM S p (S 83 (3072 * p + 48 * y' + x').toNat).toNat) p x' y') w.toNat 1 (S' 85 (3072 * p + 48 * y' + x').toNat - 1) := by
  intro n
  induction n with
  | zero =>
    intro y h S m u5 u6 H h83 h84 y0 y1
    have e : y = 64 := by omega
    refine ⟨h, S, ?_, H, rfl, fun _ _ => rfl, fun _ _ => rfl, fun y' x' a b => by omega⟩
    rw [L_Mod_trap_69 hW, e, show m + cq (fun q => S 85 (3072 * p.toNat + q) - 1) (48 * 0) (48 * 64 : Int).toNat = m by show m + 0 = m; omega]
    simp (disch := omega) only [↓reduceIte, S0, S1, J_lt, J_le, J_eq, J_ldI, J_ldI3, J_ldB, J_ldL, J_ldR, J_stI, J_stB, J_stL, J_dv, j_gne, C0, CM, CP, CR, CJ, CS, CL, and_self, and_true, true_and, and_false, false_and, or_true, true_or, or_false, false_or, not_true_eq_false, not_false_eq_true, Option.map_some, J_ltT, J_ltF, J_leT, J_leF, J_eqT, J_eqF, J_ntT, J_ntF, E_Mod_trap hW]
  | succ n ih =>
    intro y h S m u5 u6 H h83 h84 y0 y1
    obtain ⟨h1, Sa, u', a1, a2, a3, a4, a5, a6⟩ := q_trapX hW hp hw (y := y) (by omega) hD hA 48 0 h S m u6 H h83 h84 (by omega) (by omega)
    obtain ⟨h2, Sb, b1, b2, b3, b4, b5, b6⟩ := ih (y + 1) h1 Sa (m + cq (fun q => Sa 85 (3072 * p.toNat + q) - 1) 48 (48 * y + 0).toNat) (some (.int (Int32.ofInt 48))) u' a2 (by rw [a4 83 (by decide)]; exact h83) (by rw [a4 84 (by decide)]; exact h84) (by omega) (by omega)
    have qm : ∀ o, QM Sa p o = QM S p o := fun o => by unfold QM; rw [a4 84 (by decide)]
    rw [a4 83 (by decide)] at b6
    refine ⟨h2, Sb, ?_, b2, b3.trans a3, fun k hk => (b4 k hk).trans (a4 k hk), fun q hq => (b5 q (by omega)).trans (a5 q (by omega)), fun y' x' c1 c2 c3 c4 => ?_⟩
    · have ex : m + cq (fun q => Sb 85 (3072 * p.toNat + q) - 1) (48 * (n + 1)) (48 * y).toNat = m + cq (fun q => Sa 85 (3072 * p.toNat + q) - 1) 48 (48 * y + 0).toNat + cq (fun q => Sb 85 (3072 * p.toNat + q) - 1) (48 * n) (48 * (y + 1)).toNat := by
        rw [show 48 * (n + 1) = 48 + 48 * n by omega, cq_add, show (48 * y).toNat + 48 = (48 * (y + 1)).toNat by omega, show 48 * y + 0 = 48 * y by omega]
        have : cq (fun q => Sb 85 (3072 * p.toNat + q) - 1) 48 (48 * y).toNat = cq (fun q => Sa 85 (3072 * p.toNat + q) - 1) 48 (48 * y).toNat := cq_congr 48 _ (fun q c1 c2 => by show Sb 85 _ - 1 = Sa 85 _ - 1; rw [b5 _ (by omega)])
        rw [this]
        omega
      rw [L_Mod_trap_69 hW, ex, ← b1]
      simp (disch := omega) only [↓reduceIte, S0, S1, J_lt, J_le, J_eq, J_ldI, J_ldI3, J_ldB, J_ldL, J_ldR, J_stI, J_stB, J_stL, J_dv, j_gne, C0, CM, CP, CR, CJ, CS, CL, and_self, and_true, true_and, and_false, false_and, or_true, true_or, or_false, false_or, not_true_eq_false, not_false_eq_true, Option.map_some, J_ltT, J_ltF, J_leT, J_leF, J_eqT, J_eqF, J_ntT, J_ntF, E_Mod_trap hW, a1]
    · by_cases e : y' = y
      · subst e
        rw [b5 _ (by omega)]
        exact a6 x' c3 c4
      · have := b6 y' x' (by omega) c2 c3 c4
        rw [qm] at this
        exact this
end QZ
