theorem trap_cell {S : Nat → Nat → Int} {p : Nat} (J : JR S p) {B : Nat → Int} (hB : ∀ j, j < 8 → B j = B0 j) {L' : Nat → Int} {w : Nat} (hR : RR (S (9 + 4 * p)) (QF (S (11 + 4 * p)) B (S (9 + 4 * p))) w 0 (S (10 + 4 * p)) L') {x y : Int} (hx : 0 ≤ x ∧ x ≤ 47) (hy : 0 ≤ y ∧ y ≤ 63) (hL : S (10 + 4 * p) (48 * y + x).toNat = -1) {v : Int}
    (hT : TVr (RQ (S 83) (QM S (p : Int) (S 83 (3072 * p + (48 * y + x).toNat)).toNat) p x y) w 1 v) : L' (48 * y + x).toNat = v := by
  have h1 := (RR_cell w 0 _ _ hR (48 * y + x).toNat (by omega)).2 hL
  rw [show ((0 : Nat) : Int) + 1 = 1 from rfl] at h1
  have lt : ∀ (r : Nat) (i : Nat), nrP (S (9 + 4 * p)) r (48 * y + x).toNat i → i < 64 := fun r i z => by
    obtain ⟨a, b, a1, a2, a3, a4, a5⟩ := (nrP_iff _ r x y i hx hy).mp z
    have := J.1 (48 * b + a).toNat (by omega)
    omega
  have key : ∀ (r : Nat) (i : Nat), (nrP (S (9 + 4 * p)) r (48 * y + x).toNat i ∧ QF (S (11 + 4 * p)) B (S (9 + 4 * p)) (48 * y + x).toNat i) ↔ (NW (S (9 + 4 * p)) r x y i ∧ QM S (p : Int) (S 83 (3072 * p + (48 * y + x).toNat)).toNat i) := fun r i =>
    ⟨fun z => ⟨(nrP_iff _ r x y i hx hy).mp z.1, (QF_QM J hB (by omega) (lt r i z.1)).mp z.2⟩, fun z => ⟨(nrP_iff _ r x y i hx hy).mpr z.1, (QF_QM J hB (by omega) (lt r i ((nrP_iff _ r x y i hx hy).mpr z.1))).mpr z.2⟩⟩
  refine TVr_one (R := fun r i => nrP (S (9 + 4 * p)) r.toNat (48 * y + x).toNat i ∧ QF (S (11 + 4 * p)) B (S (9 + 4 * p)) (48 * y + x).toNat i) w 1 _ _ (fun c z => ?_) (fun s c hs => ?_) h1 hT
  · have e : c = (S (9 + 4 * p) (48 * y + x).toNat).toNat := z.1
    have q : litP (fun c => wtN (S (11 + 4 * p)) B (c * 8) 8 0 0) c (S (9 + 4 * p) (48 * y + x).toNat).toNat := z.2.2.2
    rw [← e] at q
    exact q.elim (fun z => by omega) (fun z => by omega)
  · rw [key, key]
    exact RQ_step hx hy (fun j hj => by have := J.1 j hj; exact ⟨this.1, by omega⟩) s c hs
