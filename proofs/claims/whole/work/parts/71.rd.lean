/-! the two sides of trap agree on a cell -/
theorem RQ_step {D C : Nat → Int} {Q : Nat → Prop} {p : Nat} {x y : Int} (hx : 0 ≤ x ∧ x ≤ 47) (hy : 0 ≤ y ∧ y ≤ 63) (hD : ∀ j, j < 3072 → C j = D (3072 * p + j) ∧ 0 ≤ C j) : ∀ (s : Int) (c : Nat), 1 ≤ s → ((NW C s.toNat x y c ∧ Q c) ↔ ((NW C (s - 1).toNat x y c ∧ Q c) ∨ RQ D Q p x y s c)) := by
  intro s c hs
  have e1 : ((s.toNat : Nat) : Int) = s := by omega
  have e2 : (((s - 1).toNat : Nat) : Int) = s - 1 := by omega
  constructor
  · rintro ⟨⟨a, b, a1, a2, a3, a4, a5⟩, q⟩
    rw [e1] at a1 a2
    by_cases z : (x - (s - 1) ≤ a ∧ a ≤ x + (s - 1)) ∧ (y - (s - 1) ≤ b ∧ b ≤ y + (s - 1))
    · exact Or.inl ⟨⟨a, b, by rw [e2]; exact z.1, by rw [e2]; exact z.2, a3, a4, a5⟩, q⟩
    · obtain ⟨d1, d2⟩ := hD (48 * b + a).toNat (by omega)
      refine Or.inr ⟨b, a, a2, a1, by omega, a3, a4, ?_, q⟩
      rw [show (3072 * (p : Int) + 48 * b + a).toNat = 3072 * p + (48 * b + a).toNat by omega, ← d1]
      omega
  · rintro (⟨⟨a, b, a1, a2, a3, a4, a5⟩, q⟩ | ⟨b, a, a2, a1, a6, a3, a4, a5, q⟩)
    · rw [e2] at a1 a2
      exact ⟨⟨a, b, by omega, by omega, a3, a4, a5⟩, q⟩
    · obtain ⟨d1, d2⟩ := hD (48 * b + a).toNat (by omega)
      rw [show (3072 * (p : Int) + 48 * b + a).toNat = 3072 * p + (48 * b + a).toNat by omega, ← d1] at a5
      exact ⟨⟨a, b, by rw [e1]; exact a1, by rw [e1]; exact a2, a3, a4, by omega⟩, q⟩
