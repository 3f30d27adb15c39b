/-! colours within r steps are the colours within r in x and in y -/
def NW (C : Nat → Int) (r : Nat) (x y : Int) (i : Nat) : Prop := ∃ a b : Int, (x - r ≤ a ∧ a ≤ x + r) ∧ (y - r ≤ b ∧ b ≤ y + r) ∧ (0 ≤ a ∧ a ≤ 47) ∧ (0 ≤ b ∧ b ≤ 63) ∧ i = (C (48 * b + a).toNat).toNat
theorem acr_at (G : Nat → Nat → Prop) {x y : Int} (hx : 0 ≤ x ∧ x ≤ 47) (hy : 0 ≤ y ∧ y ≤ 63) (i : Nat) : acrP G (48 * y + x).toNat i ↔ ∃ a : Int, (x - 1 ≤ a ∧ a ≤ x + 1) ∧ (0 ≤ a ∧ a ≤ 47) ∧ G (48 * y + a).toNat i := by
  unfold acrP
  constructor
  · rintro (⟨z, q⟩ | q | ⟨z, q⟩)
    · exact ⟨x - 1, by omega, by omega, by rw [show (48 * y + (x - 1)).toNat = (48 * y + x).toNat - 1 by omega]; exact q⟩
    · exact ⟨x, by omega, by omega, q⟩
    · exact ⟨x + 1, by omega, by omega, by rw [show (48 * y + (x + 1)).toNat = (48 * y + x).toNat + 1 by omega]; exact q⟩
  · rintro ⟨a, a1, a2, q⟩
    have : a = x - 1 ∨ a = x ∨ a = x + 1 := by omega
    rcases this with rfl | rfl | rfl
    · exact Or.inl ⟨by omega, by rw [show (48 * y + x).toNat - 1 = (48 * y + (x - 1)).toNat by omega]; exact q⟩
    · exact Or.inr (Or.inl q)
    · exact Or.inr (Or.inr ⟨by omega, by rw [show (48 * y + x).toNat + 1 = (48 * y + (x + 1)).toNat by omega]; exact q⟩)
theorem dwn_at (G : Nat → Nat → Prop) {x y : Int} (hx : 0 ≤ x ∧ x ≤ 47) (hy : 0 ≤ y ∧ y ≤ 63) (i : Nat) : dwnP G (48 * y + x).toNat i ↔ ∃ b : Int, (y - 1 ≤ b ∧ b ≤ y + 1) ∧ (0 ≤ b ∧ b ≤ 63) ∧ G (48 * b + x).toNat i := by
  unfold dwnP
  constructor
  · rintro (⟨z, q⟩ | q | ⟨z, q⟩)
    · exact ⟨y - 1, by omega, by omega, by rw [show (48 * (y - 1) + x).toNat = (48 * y + x).toNat - 48 by omega]; exact q⟩
    · exact ⟨y, by omega, by omega, q⟩
    · exact ⟨y + 1, by omega, by omega, by rw [show (48 * (y + 1) + x).toNat = (48 * y + x).toNat + 48 by omega]; exact q⟩
  · rintro ⟨b, b1, b2, q⟩
    have : b = y - 1 ∨ b = y ∨ b = y + 1 := by omega
    rcases this with rfl | rfl | rfl
    · exact Or.inl ⟨by omega, by rw [show (48 * y + x).toNat - 48 = (48 * (y - 1) + x).toNat by omega]; exact q⟩
    · exact Or.inr (Or.inl q)
    · exact Or.inr (Or.inr ⟨by omega, by rw [show (48 * y + x).toNat + 48 = (48 * (y + 1) + x).toNat by omega]; exact q⟩)
theorem nrP_iff (C : Nat → Int) : ∀ (r : Nat) (x y : Int) (i : Nat), 0 ≤ x ∧ x ≤ 47 → 0 ≤ y ∧ y ≤ 63 → (nrP C r (48 * y + x).toNat i ↔ NW C r x y i)
  | 0, x, y, i, hx, hy => by
    constructor
    · intro q
      exact ⟨x, y, by omega, by omega, hx, hy, q⟩
    · rintro ⟨a, b, a1, a2, a3, a4, q⟩
      have e1 : a = x := by omega
      have e2 : b = y := by omega
      subst e1; subst e2
      exact q
  | r + 1, x, y, i, hx, hy => by
    show dwnP (acrP (nrP C r)) (48 * y + x).toNat i ↔ _
    rw [dwn_at _ hx hy]
    constructor
    · rintro ⟨b, b1, b2, q⟩
      obtain ⟨a, a1, a2, q⟩ := (acr_at _ hx b2 i).mp q
      obtain ⟨a', b', c1, c2, c3, c4, c5⟩ := (nrP_iff C r a b i a2 b2).mp q
      exact ⟨a', b', by omega, by omega, c3, c4, c5⟩
    · rintro ⟨a', b', c1, c2, c3, c4, c5⟩
      refine ⟨if b' < y then y - 1 else if y < b' then y + 1 else y, ?_, ?_, ?_⟩
      · repeat' split
        all_goals omega
      · repeat' split
        all_goals omega
      · refine (acr_at _ hx (by repeat' split
                                all_goals omega) i).mpr ⟨if a' < x then x - 1 else if x < a' then x + 1 else x, ?_, ?_, ?_⟩
        · repeat' split
          all_goals omega
        · repeat' split
          all_goals omega
        · refine (nrP_iff C r _ _ i (by repeat' split
                                        all_goals omega) (by repeat' split
                                                             all_goals omega)).mpr ⟨a', b', ?_, ?_, c3, c4, c5⟩
          · repeat' split
            all_goals omega
          · repeat' split
            all_goals omega
