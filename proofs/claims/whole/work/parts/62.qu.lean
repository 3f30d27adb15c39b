theorem ink_bit (A : Nat → Int) (b : Int) (i : Nat) : (inkN A b 8 0 0).testBit i = true ↔ (i < 8 ∧ 64 ≤ A (b + i).toNat) := by
  rw [inkN_bit A b 8 0 0 (by omega) i, Nat.zero_testBit, Bool.false_or, decide_eq_true_eq]
  constructor
  · intro q; exact ⟨by omega, q.2.2⟩
  · intro q; exact ⟨by omega, by omega, q.2⟩
theorem ink_nz (A : Nat → Int) (b : Int) : inkN A b 8 0 0 ≠ 0 ↔ ∃ i : Int, 0 ≤ i ∧ i < 0 + (8 : Nat) ∧ decide (64 ≤ A (b + i).toNat) = true := by
  constructor
  · intro hn
    apply Classical.byContradiction
    intro hx
    refine hn (Nat.eq_of_testBit_eq (fun i => ?_))
    rw [Nat.zero_testBit]
    cases hb : (inkN A b 8 0 0).testBit i with
    | false => rfl
    | true =>
      obtain ⟨q1, q2⟩ := (ink_bit A b i).mp hb
      exact absurd ⟨(i : Int), by omega, by omega, decide_eq_true q2⟩ hx
  · rintro ⟨i, a, c, q⟩ e
    have : (inkN A b 8 0 0).testBit i.toNat = true := (ink_bit A b i.toNat).mpr ⟨by omega, by rw [show ((i.toNat : Nat) : Int) = i by omega]; exact of_decide_eq_true q⟩
    rw [e, Nat.zero_testBit] at this
    cases this
theorem ink_and (A : Nat → Int) (b b' : Int) : (inkN A b 8 0 0 &&& inkN A b' 8 0 0) = 0 ↔ ¬ ∃ i : Int, 0 ≤ i ∧ i < 0 + (8 : Nat) ∧ (decide (64 ≤ A (b + i).toNat) && decide (64 ≤ A (b' + i).toNat)) = true := by
  constructor
  · rintro e ⟨i, a, c, q⟩
    rw [Bool.and_eq_true] at q
    have h1 : (inkN A b 8 0 0 &&& inkN A b' 8 0 0).testBit i.toNat = true := by
      rw [Nat.testBit_and, Bool.and_eq_true]
      exact ⟨(ink_bit A b i.toNat).mpr ⟨by omega, by rw [show ((i.toNat : Nat) : Int) = i by omega]; exact of_decide_eq_true q.1⟩, (ink_bit A b' i.toNat).mpr ⟨by omega, by rw [show ((i.toNat : Nat) : Int) = i by omega]; exact of_decide_eq_true q.2⟩⟩
    rw [e, Nat.zero_testBit] at h1
    cases h1
  · intro hx
    refine Nat.eq_of_testBit_eq (fun i => ?_)
    rw [Nat.zero_testBit]
    cases hb : (inkN A b 8 0 0 &&& inkN A b' 8 0 0).testBit i with
    | false => rfl
    | true =>
      rw [Nat.testBit_and, Bool.and_eq_true] at hb
      obtain ⟨q1, q2⟩ := (ink_bit A b i).mp hb.1
      obtain ⟨q3, q4⟩ := (ink_bit A b' i).mp hb.2
      exact absurd ⟨(i : Int), by omega, by omega, by rw [Bool.and_eq_true]; exact ⟨decide_eq_true q2, decide_eq_true q4⟩⟩ hx
section QU
variable {V : Nat → Value} {W : xWt} {N : Nat} {T : Nat → Nat → Int64} {h : xH} {S : Nat → Nat → Int}
theorem q_isShy (hW : xFix V W) (H : HP N h S T) {p : Int} {c d : Nat} (hp : 0 ≤ p ∧ p < 4) (hc : c < 64) (hd : d < 64) (hA : ∀ j, j < 512 → 0 ≤ S 84 (512 * p.toNat + j) ∧ S 84 (512 * p.toNat + j) ≤ 255) (dc : Decidable (shyP (fun c => inkN (fun j => S 84 (512 * p.toNat + j)) (c * 8) 8 0 0) c d)) :
    W m_Mod_isShy (0, [some (.ref (N + 78)), some (.int (Int32.ofInt p)), some (.int (Int32.ofInt ((c : Int)))), some (.int (Int32.ofInt ((d : Int)))), none, none, none, none, none, none], []) h = some (.inl (some (jI (if shyP (fun c => inkN (fun j => S 84 (512 * p.toNat + j)) (c * 8) 8 0 0) c d then 1 else 0))), h) := by
  have r := q_shyLoop hW H hp (c := c) (d := d) (by omega) (by omega) hA 8 0 false false false none none (by omega) (by omega)
  have st : W m_Mod_isShy (0, [some (.ref (N + 78)), some (.int (Int32.ofInt p)), some (.int (Int32.ofInt ((c : Int)))), some (.int (Int32.ofInt ((d : Int)))), none, none, none, none, none, none], []) h = W m_Mod_isShy (12, [some (.ref (N + 78)), some (.int (Int32.ofInt p)), some (.int (Int32.ofInt ((c : Int)))), some (.int (Int32.ofInt ((d : Int)))), some (.int (Int32.ofInt (b2 false))), some (.int (Int32.ofInt (b2 false))), some (.int (Int32.ofInt (b2 false))), some (.int (Int32.ofInt 0)), none, none], []) h := by
    simp only [E_Mod_isShy hW]
    rfl
  rw [st, r]
  have key : shyP (fun c => inkN (fun j => S 84 (512 * p.toNat + j)) (c * 8) 8 0 0) c d ↔ (eb (fun k => decide (64 ≤ S 84 (512 * p.toNat + ((c : Int) * 8 + k).toNat))) 8 0 false && eb (fun k => decide (64 ≤ S 84 (512 * p.toNat + ((d : Int) * 8 + k).toNat))) 8 0 false && !(eb (fun k => decide (64 ≤ S 84 (512 * p.toNat + ((c : Int) * 8 + k).toNat)) && decide (64 ≤ S 84 (512 * p.toNat + ((d : Int) * 8 + k).toNat))) 8 0 false)) = true := by
    unfold shyP
    rw [Bool.and_eq_true, Bool.and_eq_true, eb_iff, eb_iff, Bool.not_eq_true', ← Bool.not_eq_true, eb_iff, ink_nz, ink_nz, ink_and]
    simp only [Bool.false_eq_true, false_or]
    exact ⟨fun q => ⟨⟨q.1, q.2.1⟩, q.2.2⟩, fun q => ⟨q.1.1, q.1.2, q.2⟩⟩
  by_cases z : shyP (fun c => inkN (fun j => S 84 (512 * p.toNat + j)) (c * 8) 8 0 0) c d
  · rw [if_pos z, key.mp z]
    rfl
  · rw [if_neg z, Bool.eq_false_iff.mpr (fun q => z (key.mpr q))]
    rfl
end QU
