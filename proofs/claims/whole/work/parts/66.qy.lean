theorem TVr_rng {R : Int → Nat → Prop} : ∀ (n : Nat) (r v : Int), TVr R n r v → -1 ≤ v ∧ v < 64
  | 0, _, v, h => by have : v = -1 := h; omega
  | n + 1, r, v, h => by
    rcases h with ⟨h1, h2⟩ | ⟨_, h2⟩
    · rcases h1 with ⟨z, _⟩ | ⟨z1, z2, _⟩ <;> omega
    · exact TVr_rng n (r + 1) v h2
section QY
variable {V : Nat → Value} {W : xWt} {N : Nat} {T : Nat → Nat → Int64}
theorem q_trapX (hW : xFix V W) {p w y : Int} (hp : 0 ≤ p ∧ p < 4) (hw : 1 ≤ w ∧ w ≤ 3) (hy : 0 ≤ y ∧ y < 64) {D A : Nat → Int} (hD : ∀ q, q < 12288 → (3072 * p.toNat ≤ q ∧ q < 3072 * p.toNat + 3072) → 0 ≤ D q ∧ D q < 64) (hA : ∀ j, j < 512 → 0 ≤ A (512 * p.toNat + j) ∧ A (512 * p.toNat + j) ≤ 255) : ∀ (n : Nat) (x : Int) (h : xH) (S : Nat → Nat → Int) (m : Int) (u : Option Value), HP N h S T → S 83 = D → S 84 = A → 0 ≤ x → x + n = 48 →
    ∃ h' S' u', W m_Mod_trap (79, [some (.ref (N + 78)), some (.int (Int32.ofInt p)), some (.int (Int32.ofInt w)), some (.int (Int32.ofInt m)), some (.int (Int32.ofInt y)), some (.int (Int32.ofInt x)), u], []) h = W m_Mod_trap (134, [some (.ref (N + 78)), some (.int (Int32.ofInt p)), some (.int (Int32.ofInt w)), some (.int (Int32.ofInt (m + cq (fun q => S' 85 (3072 * p.toNat + q) - 1) n (48 * y + x).toNat))), some (.int (Int32.ofInt y)), some (.int (Int32.ofInt 48)), u'], []) h' ∧ HP N h' S' T ∧ h'.2 = h.2 ∧ (∀ k, k ≠ 85 → S' k = S k) ∧ (∀ q : Nat, ((q : Int) < 3072 * p + 48 * y + x ∨ 3072 * p + 48 * y + 48 ≤ (q : Int)) → S' 85 q = S 85 q) ∧ ∀ x', x ≤ x' → x' < 48 → TVr (RQ (S 83) (QM S p (S 83 (3072 * p + 48 * y + x').toNat).toNat) p x' y) w.toNat 1 (S' 85 (3072 * p + 48 * y + x').toNat - 1) := by
  intro n
  induction n with
  | zero =>
    intro x h S m u H h83 h84 x0 x1
    have e : x = 48 := by omega
    refine ⟨h, S, u, ?_, H, rfl, fun _ _ => rfl, fun _ _ => rfl, fun x' a b => by omega⟩
    rw [L_Mod_trap_79 hW, e, show m + cq (fun q => S 85 (3072 * p.toNat + q) - 1) 0 (48 * y + 48).toNat = m by show m + 0 = m; omega]
    simp (disch := omega) only [↓reduceIte, S0, S1, J_lt, J_le, J_eq, J_ldI, J_ldI3, J_ldB, J_ldL, J_ldR, J_stI, J_stB, J_stL, J_dv, j_gne, C0, CM, CP, CR, CJ, CS, CL, and_self, and_true, true_and, and_false, false_and, or_true, true_or, or_false, false_or, not_true_eq_false, not_false_eq_true, Option.map_some, J_ltT, J_ltF, J_leT, J_leF, J_eqT, J_eqF, J_ntT, J_ntF]
  | succ n ih =>
    intro x h S m u H h83 h84 x0 x1
    obtain ⟨v, s1, s2⟩ := q_spreading hW H hp (x := x) (y := y) (w := w) (by omega) hy hw (by rw [h83]; exact hD) (by rw [h84]; exact hA)
    obtain ⟨v0, v1⟩ := TVr_rng _ _ _ s2
    have H1 := H.put (k := 85) (by omega) (jup (S 85) (3072 * p + 48 * y + x).toNat (v + 1)) (e := jA 0 12288 (jup (S 85) (3072 * p + 48 * y + x).toNat (v + 1))) rfl
    obtain ⟨h', S', u', r1, r2, r3, r4, r5, r6⟩ := ih (x + 1) _ _ (m + (if v = -1 then 0 else 1)) (some (.int (Int32.ofInt v))) H1 (by rw [sup_ne _ _ (by decide)]; exact h83) (by rw [sup_ne _ _ (by decide)]; exact h84) (by omega) (by omega)
    rw [sup_same] at r5
    have qm : ∀ o, QM (sup S 85 (jup (S 85) (3072 * p + 48 * y + x).toNat (v + 1))) p o = QM S p o := fun o => by unfold QM; rw [sup_ne _ _ (by decide)]
    rw [sup_ne _ _ (show (83 : Nat) ≠ 85 by decide)] at r6
    have sx : S' 85 (3072 * p + 48 * y + x).toNat = v + 1 := by rw [r5 _ (by omega), jup_same]
    refine ⟨h', S', u', ?_, r2, r3.trans rfl, fun k hk => by rw [r4 k hk, sup_ne _ _ hk], fun q hq => by rw [r5 q (by omega), jup_ne _ _ (by omega)], fun x' a b => ?_⟩
    · have ex : m + cq (fun q => S' 85 (3072 * p.toNat + q) - 1) (n + 1) (48 * y + x).toNat = m + (if v = -1 then 0 else 1) + cq (fun q => S' 85 (3072 * p.toNat + q) - 1) n (48 * y + (x + 1)).toNat := by
        show m + ((if S' 85 (3072 * p.toNat + (48 * y + x).toNat) - 1 = -1 then 0 else 1) + cq (fun q => S' 85 (3072 * p.toNat + q) - 1) n ((48 * y + x).toNat + 1)) = _
        rw [show 3072 * p.toNat + (48 * y + x).toNat = (3072 * p + 48 * y + x).toNat by omega, sx, show v + 1 - 1 = v by omega, show (48 * y + x).toNat + 1 = (48 * y + (x + 1)).toNat by omega]
        omega
      rw [L_Mod_trap_79 hW, ex, ← r1]
      by_cases z : v = -1
      · subst z
        simp (disch := omega) only [↓reduceIte, S0, S1, J_lt, J_le, J_eq, J_ldI, J_ldI3, J_ldB, J_ldL, J_ldR, J_stI, J_stB, J_stL, J_dv, j_gne, C0, CM, CP, CR, CJ, CS, CL, and_self, and_true, true_and, and_false, false_and, or_true, true_or, or_false, false_or, not_true_eq_false, not_false_eq_true, Option.map_some, J_ltT, J_ltF, J_leT, J_leF, J_eqT, J_eqF, J_ntT, J_ntF, E_Mod_trap hW, H.get, s1, q_at hW]
      · simp (disch := omega) only [↓reduceIte, S0, S1, J_lt, J_le, J_eq, J_ldI, J_ldI3, J_ldB, J_ldL, J_ldR, J_stI, J_stB, J_stL, J_dv, j_gne, C0, CM, CP, CR, CJ, CS, CL, and_self, and_true, true_and, and_false, false_and, or_true, true_or, or_false, false_or, not_true_eq_false, not_false_eq_true, Option.map_some, J_ltT, J_ltF, J_leT, J_leF, J_eqT, J_eqF, J_ntT, J_ntF, E_Mod_trap hW, H.get, s1, q_at hW]
    · by_cases e : x' = x
      · subst e
        rw [sx, show v + 1 - 1 = v by omega]
        exact s2
      · have := r6 x' (by omega) b
        rw [qm] at this
        exact this
end QY
