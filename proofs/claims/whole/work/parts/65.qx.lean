section QX
variable {V : Nat → Value} {W : xWt} {N : Nat} {T : Nat → Nat → Int64} {h : xH} {S : Nat → Nat → Int}
/-- which colours spread under a cell of the colour o, as the reference has it -/
def QM (S : Nat → Nat → Int) (p : Int) (o : Nat) (c : Nat) : Prop := litP (fun c => wtN (fun j => S 84 (512 * p.toNat + j)) B0 (c * 8) 8 0 0) c o ∧ shyP (fun c => inkN (fun j => S 84 (512 * p.toNat + j)) (c * 8) 8 0 0) c o
theorem q_spreading (hW : xFix V W) (H : HP N h S T) {p x y w : Int} (hp : 0 ≤ p ∧ p < 4) (hx : 0 ≤ x ∧ x < 48) (hy : 0 ≤ y ∧ y < 64) (hw : 1 ≤ w ∧ w ≤ 3) (hD : ∀ q, q < 12288 → (3072 * p.toNat ≤ q ∧ q < 3072 * p.toNat + 3072) → 0 ≤ S 83 q ∧ S 83 q < 64) (hA : ∀ j, j < 512 → 0 ≤ S 84 (512 * p.toNat + j) ∧ S 84 (512 * p.toNat + j) ≤ 255) :
    ∃ v, W m_Mod_spreading (0, [some (.ref (N + 78)), some (.int (Int32.ofInt p)), some (.int (Int32.ofInt x)), some (.int (Int32.ofInt y)), some (.int (Int32.ofInt w)), none, none, none, none, none, none, none], []) h = some (.inl (some (jI v)), h) ∧ TVr (RQ (S 83) (QM S p (S 83 (3072 * p + 48 * y + x).toNat).toNat) p x y) w.toNat 1 v := by
  have hd := hD (3072 * p + 48 * y + x).toNat (by omega) (by omega)
  obtain ⟨o, eo⟩ : ∃ o : Nat, S 83 (3072 * p + 48 * y + x).toNat = (o : Int) := ⟨(S 83 (3072 * p + 48 * y + x).toNat).toNat, by omega⟩
  have hM : ∀ c : Nat, c < 64 → 0 ≤ wtN (fun j => S 84 (512 * p.toNat + j)) B0 (c * 8) 8 0 0 ∧ wtN (fun j => S 84 (512 * p.toNat + j)) B0 (c * 8) 8 0 0 < 1000000 := fun c hc => by
    obtain ⟨y1, y2⟩ := wtN_rng (A := fun j => S 84 (512 * p.toNat + j)) (B := B0) (b := (c : Int) * 8) (by omega) hA (fun j hj => by unfold B0; repeat' split; all_goals omega) 8 0 0 (by omega) (by omega) (by omega)
    exact ⟨y1, by omega⟩
  obtain ⟨v, r1, r2⟩ := q_rings hW H (w := w) (o := o) (by omega) hp hx hy hw.2 hD hA hM (Q := QM S p o) (fun c => Iff.rfl) w.toNat 1 none none none none none (by omega) (by omega)
  refine ⟨v, ?_, ?_⟩
  · rw [← r1]
    obtain ⟨k0, k4, k10, k11, -⟩ := E_Mod_spreading hW
    simp (disch := omega) only [↓reduceIte, S0, S1, J_lt, J_le, J_eq, J_ldI, J_ldI3, J_ldB, J_ldL, J_ldR, J_stI, J_stB, J_stL, J_dv, j_gne, C0, CM, CP, CR, CJ, CS, CL, and_self, and_true, true_and, and_false, false_and, or_true, true_or, or_false, false_or, not_true_eq_false, not_false_eq_true, Option.map_some, J_ltT, J_ltF, J_leT, J_leF, J_eqT, J_eqF, J_ntT, J_ntF, k0, k4, k10, k11, H.get, q_at hW, eo]
  · rw [eo, Int.toNat_natCast]
    exact r2
end QX
