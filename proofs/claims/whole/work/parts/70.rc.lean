/-! one cell through all rounds; one number alone -/
theorem RR_cell {C : Nat → Int} {Q : Nat → Nat → Prop} : ∀ (n d : Nat) (L L' : Nat → Int), RR C Q n d L L' → ∀ q, q < 3072 → (L q ≠ -1 → L' q = L q) ∧ (L q = -1 → TVr (fun r i => nrP C r.toNat q i ∧ Q q i) n ((d : Int) + 1) (L' q))
  | 0, d, L, L', h, q, hq => ⟨fun _ => h q hq, fun e => (h q hq).trans e⟩
  | n + 1, d, L, L', h, q, hq => by
    obtain ⟨L1, h1, h2⟩ := h
    have ih := RR_cell n (d + 1) L1 L' h2 q hq
    rw [show (((d + 1 : Nat) : Int)) = (d : Int) + 1 by omega] at ih
    have e1 : ((d : Int) + 1).toNat = d + 1 := by omega
    refine ⟨fun e => ?_, fun e => ?_⟩
    · rcases h1 q hq with ⟨k1, k2⟩ | ⟨k1, _⟩ | ⟨k1, _⟩
      · rw [ih.1 (by rw [k2]; exact k1), k2]
      · exact absurd k1 e
      · exact absurd k1 e
    · rcases h1 q hq with ⟨k1, _⟩ | ⟨_, k2, k3⟩ | ⟨_, k2, k3, k4, k5⟩
      · exact absurd e k1
      · refine Or.inr ⟨fun c => ?_, ih.2 k2⟩
        show ¬ (nrP C ((d : Int) + 1).toNat q c ∧ Q q c)
        rw [e1]
        exact k3 c
      · refine Or.inl ?_
        rw [ih.1 (by omega)]
        refine ⟨Or.inr ⟨k2, k3, ?_, fun i hi => ?_⟩, k2⟩
        · show nrP C ((d : Int) + 1).toNat q (L1 q).toNat ∧ Q q (L1 q).toNat
          rw [e1]
          exact k4
        · show ¬ (nrP C ((d : Int) + 1).toNat q i ∧ Q q i)
          rw [e1]
          exact k5 i hi
theorem BM_one {P P' : Nat → Prop} {a b : Int} (h : ∀ c, P c ↔ P' c) (k : BM P a) (k' : BM P' b) : a = b := by
  rcases k with ⟨k1, k2⟩ | ⟨k1, k2, k3, k4⟩
  · rcases k' with ⟨l1, l2⟩ | ⟨l1, l2, l3, l4⟩
    · omega
    · exact absurd ((h _).mpr l3) (k2 _)
  · rcases k' with ⟨l1, l2⟩ | ⟨l1, l2, l3, l4⟩
    · exact absurd ((h _).mp k3) (l2 _)
    · have n1 : ¬ b.toNat < a.toNat := fun z => k4 _ z ((h _).mpr l3)
      have n2 : ¬ a.toNat < b.toNat := fun z => l4 _ z ((h _).mp k3)
      omega
/-- R gathers what R' has ring by ring -/
theorem TVr_one {R R' : Int → Nat → Prop} : ∀ (n : Nat) (r a b : Int), (∀ c, ¬ R (r - 1) c) → (∀ s c, r ≤ s → (R s c ↔ (R (s - 1) c ∨ R' s c))) → TVr R n r a → TVr R' n r b → a = b
  | 0, r, a, b, _, _, h1, h2 => by
    have e1 : a = -1 := h1
    have e2 : b = -1 := h2
    omega
  | n + 1, r, a, b, h0, h, h1, h2 => by
    have e : ∀ c, R r c ↔ R' r c := fun c => by
      rw [h r c (by omega)]
      exact ⟨fun q => q.elim (fun z => absurd z (h0 c)) id, Or.inr⟩
    rcases h1 with ⟨k1, k2⟩ | ⟨k1, k2⟩
    · rcases h2 with ⟨l1, l2⟩ | ⟨l1, l2⟩
      · exact BM_one e k1 l1
      · rcases k1 with ⟨z, _⟩ | ⟨_, _, z, _⟩
        · omega
        · exact absurd ((e _).mp z) (l1 _)
    · rcases h2 with ⟨l1, l2⟩ | ⟨l1, l2⟩
      · rcases l1 with ⟨z, _⟩ | ⟨_, _, z, _⟩
        · omega
        · exact absurd ((e _).mpr z) (k1 _)
      · exact TVr_one n (r + 1) a b (by rw [show r + 1 - 1 = r by omega]; exact k1) (fun s c hs => h s c (by omega)) k2 l2
