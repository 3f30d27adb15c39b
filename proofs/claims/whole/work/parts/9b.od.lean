section ODS
variable {V : Nat → Value} {W : xWt} {N : Nat} {h : xH} {S : Nat → Nat → Int} {T : Nat → Nat → Int64}
theorem scS_ne {i : Nat} {a b s : Int} {k : Nat} (h : k ≠ 78 ∧ k ≠ 88 ∧ k ≠ 89 ∧ k ≠ 90 ∧ k ≠ 91) : scS S i a b s k = S k := by
  unfold scS
  rw [sup_ne _ _ h.2.2.2.2, sup_ne _ _ h.2.2.2.1, sup_ne _ _ h.2.2.1, sup_ne _ _ h.2.1, sup_ne _ _ h.1]
theorem scS_at {i : Nat} {a b s : Int} : scS S i a b s 78 = jup (S 78) 0 0 ∧ scS S i a b s 88 = jup (S 88) i a ∧ scS S i a b s 89 = jup (S 89) i b ∧ scS S i a b s 90 = jup (S 90) i s ∧ scS S i a b s 91 = jup (S 91) i 0 := by
  unfold scS
  refine ⟨?_, ?_, ?_, ?_, ?_⟩
  · rw [sup_ne _ _ (by omega), sup_ne _ _ (by omega), sup_ne _ _ (by omega), sup_ne _ _ (by omega), sup_same]
  · rw [sup_ne _ _ (by omega), sup_ne _ _ (by omega), sup_ne _ _ (by omega), sup_same]
  · rw [sup_ne _ _ (by omega), sup_ne _ _ (by omega), sup_same]
  · rw [sup_ne _ _ (by omega), sup_same]
  · rw [sup_same]
theorem o_screen (hW : xFix V W) (H : HP N h S T) (Q : INV S) {i a b s : Int} (h1 : j32 i) (h2 : j32 a) (h3 : j32 b) (h4 : j32 s) : OPK N h (W m_Law_screen (0, [some (.ref N), some (.int (Int32.ofInt i)), some (.int (Int32.ofInt a)), some (.int (Int32.ofInt b)), some (.int (Int32.ofInt s)), some (.ref (N + 101)), none], []) h) (fun h1 => W m_Mod_screen (0, [some (.ref (N + 78)), some (.int (Int32.ofInt i)), some (.int (Int32.ofInt a)), some (.int (Int32.ofInt b)), some (.int (Int32.ofInt s)), none], []) h1) := by
  obtain ⟨i1, i2, i3, i4, i5, i6⟩ := id Q
  have pc := p_screen hW H i6.1 h1 h2 h3 h4
  by_cases c1 : 0 ≤ i ∧ i < 8
  · rw [if_pos c1] at pc
    by_cases c2 : ((-20 ≤ a ∧ a ≤ 20) ∧ (-20 ≤ b ∧ b ≤ 20)) ∧ (1 ≤ a * a + b * b ∧ a * a + b * b ≤ 400) ∧ (0 ≤ s ∧ s ≤ 2)
    · rw [if_pos c2] at pc
      obtain ⟨h1', Sa, e1, H1, s1, e2, e3, e4⟩ := pc
      refine op_ok H1 s1 (w_screen_ok hW H e1 H1) (fun T' h' H' => ?_)
      have qc := q_screen hW H' h1 h2 h3 h4
      rw [if_pos c1, if_pos c2] at qc
      obtain ⟨h2', r1, r2, r3⟩ := qc
      obtain ⟨t78, t88, t89, t90, t91⟩ := scS_at (S := Sa) (i := i.toNat) (a := a) (b := b) (s := s)
      have eo : ∀ k, (k < 33 ∨ 59 ≤ k) → k ≠ 78 → k ≠ 88 → k ≠ 89 → k ≠ 90 → k ≠ 91 → scS Sa i.toNat a b s k = S k := fun k k0 k1 k2 k3 k4 k5 => by rw [scS_ne ⟨k1, k2, k3, k4, k5⟩, e2 k (by omega) (by omega) (by omega) (by omega) (by omega)]
      have ea : ∀ k, 59 ≤ k → Sa k = S k := fun k k0 => e2 k (by omega) (by omega) (by omega) (by omega) (by omega)
      have f78 : ∀ q, q ≠ 0 → scS Sa i.toNat a b s 78 q = S 78 q := fun q hq => by rw [t78, jup_ne _ _ hq, ea 78 (by omega)]
      refine ⟨h2', _, r1, r2, ⟨I1_of i1 (fun k hk => eo k (by omega) (by omega) (by omega) (by omega) (by omega) (by omega)), I2_of i2 (fun k hk => eo k (by omega) (by omega) (by omega) (by omega) (by omega) (by omega)), I3_of i3 (eo 0 (by omega) (by omega) (by omega) (by omega) (by omega) (by omega)) ⟨f78 3 (by omega), f78 4 (by omega)⟩, I4_of i4 (fun k hk => eo k (by omega) (by omega) (by omega) (by omega) (by omega) (by omega)), SR_of i5 (fun k hk => eo k (by omega) (by omega) (by omega) (by omega) (by omega) (by omega)) ⟨f78 21 (by omega), f78 23 (by omega), f78 24 (by omega)⟩, PLC_of i6.1 (fun k hk => eo k (by omega) (by omega) (by omega) (by omega) (by omega) (by omega)), fun j hj => ?_⟩, by rw [t78, jup_same], r3⟩
      by_cases ej : j = i.toNat
      · subst ej
        refine ⟨?_, Or.inl (by rw [t91, jup_same])⟩
        unfold SCi
        rw [t88, t89, t90, jup_same, jup_same, jup_same, scS_ne (by omega), scS_ne (by omega), scS_ne (by omega)]
        exact ⟨⟨c2.1.1, c2.1.2, by omega, c2.2.1⟩, e3, e4⟩
      · obtain ⟨s0, k0⟩ := i6.2 j hj
        constructor
        · unfold SCi
          rw [t88, t89, t90, jup_ne _ _ ej, jup_ne _ _ ej, jup_ne _ _ ej, ea 88 (by omega), ea 89 (by omega), ea 90 (by omega), scS_ne (by omega), scS_ne (by omega), scS_ne (by omega), e2 (35 + 3 * j) (by omega) (by omega) (by omega) (by omega) (by omega), e2 (36 + 3 * j) (by omega) (by omega) (by omega) (by omega) (by omega), e2 (37 + 3 * j) (by omega) (by omega) (by omega) (by omega) (by omega)]
          exact s0
        · unfold KNi KD KN at *
          rw [t88, t89, t90, t91, jup_ne _ _ ej, jup_ne _ _ ej, jup_ne _ _ ej, jup_ne _ _ ej, ea 88 (by omega), ea 89 (by omega), ea 90 (by omega), ea 91 (by omega), eo 92 (by omega) (by omega) (by omega) (by omega) (by omega) (by omega), eo 93 (by omega) (by omega) (by omega) (by omega) (by omega) (by omega), eo 94 (by omega) (by omega) (by omega) (by omega) (by omega) (by omega)]
          exact k0
    · rw [if_neg c2] at pc
      refine op_ex H Q (by omega) (w_screen_x9 hW H pc) (fun h' H' => ?_)
      have qc := q_screen hW H' h1 h2 h3 h4
      rw [if_pos c1, if_neg c2] at qc
      exact qc
  · rw [if_neg c1] at pc
    refine op_ex H Q (by omega) (w_screen_x8 hW H pc) (fun h' H' => ?_)
    have qc := q_screen hW H' h1 h2 h3 h4
    rw [if_neg c1] at qc
    exact qc
/-! the folded leaves, one by one -/
theorem lv_all : ∀ f : Fin 4, ∀ s : Fin 16, s.val < 2 ^ (f.val + 1) → (0 ≤ (lv (f.val + 1) ((s.val : Int) % colsOf (f.val + 1)) ((s.val : Int) / colsOf (f.val + 1))).2.2.1 ∧ (lv (f.val + 1) ((s.val : Int) % colsOf (f.val + 1)) ((s.val : Int) / colsOf (f.val + 1))).2.2.1 < 2 ^ (f.val + 1)) ∧ (0 ≤ (lv (f.val + 1) ((s.val : Int) % colsOf (f.val + 1)) ((s.val : Int) / colsOf (f.val + 1))).2.2.2.1 ∧ (lv (f.val + 1) ((s.val : Int) % colsOf (f.val + 1)) ((s.val : Int) / colsOf (f.val + 1))).2.2.2.1 ≤ 1) ∧ (0 ≤ (lv (f.val + 1) ((s.val : Int) % colsOf (f.val + 1)) ((s.val : Int) / colsOf (f.val + 1))).2.2.2.2 ∧ (lv (f.val + 1) ((s.val : Int) % colsOf (f.val + 1)) ((s.val : Int) / colsOf (f.val + 1))).2.2.2.2 ≤ 1) := by decide +kernel
theorem ab_all : ∀ f : Fin 4, ∀ j : Fin 16, j.val < 2 ^ (f.val + 1) → ∃ s : Fin 16, s.val < 2 ^ (f.val + 1) ∧ (abv (f.val + 1) (s.val : Int)).toNat = j.val := by decide +kernel
theorem sft_eq {d : Int → Int} {m : Int} : ∀ (n : Nat) (k : Int) (F G : Nat → Int) (j : Nat), (F j = G j ∨ ∃ s, k ≤ s ∧ s < k + n ∧ (d s).toNat = j) → sft d n k F j = sft d n k G j
  | 0, k, F, G, j, h => by rcases h with h | ⟨s, h1, h2, _⟩; exact h; omega
  | n + 1, k, F, G, j, h => by
    refine sft_eq (m := m) n (k + 1) _ _ j ?_
    by_cases e : j = (d k).toNat
    · left; rw [e, jup_same, jup_same]
    · rcases h with h | ⟨s, h1, h2, h3⟩
      · left; rw [jup_ne _ _ e, jup_ne _ _ e]; exact h
      · right
        refine ⟨s, ?_, by omega, h3⟩
        have : s ≠ k := fun c => e (by rw [← h3, c])
        omega
theorem o_impose (hW : xFix V W) (H : HP N h S T) (Q : INV S) {a f y : Int} (ha : j32 a) (hf : j32 f) (hy : j32 y) : OPK N h (W m_Law_impose (0, [some (.ref N), some (.int (Int32.ofInt a)), some (.int (Int32.ofInt f)), some (.int (Int32.ofInt y)), some (.ref (N + 101)), none], []) h) (fun h1 => W m_Mod_impose (0, [some (.ref (N + 78)), some (.int (Int32.ofInt a)), some (.int (Int32.ofInt f)), some (.int (Int32.ofInt y)), none, none, none, none, none], []) h1) := by
  obtain ⟨i1, i2, i3, i4, i5, i6⟩ := id Q
  have pc := p_impose hW ha hf hy H
  by_cases c1 : ((1 ≤ f ∧ f ≤ 4) ∧ (0 ≤ y ∧ y ≤ 1000)) ∧ (1 ≤ a ∧ a ≤ 64) ∧ a % (2 * 2 ^ f.toNat) = 0
  · rw [if_pos c1] at pc
    obtain ⟨h1, Sa, e1, H1, s1, e2, e3, e4, e5⟩ := pc
    refine op_ok H1 s1 (w_impose_ok hW H e1 H1) (fun T' h' H' => ?_)
    have qc := q_impose hW ha hf hy H'
    rw [if_pos c1] at qc
    obtain ⟨h2, Sb, r1, r2, r3, r4, r5, r6, r7⟩ := qc
    have hf4 : f.toNat = 1 ∨ f.toNat = 2 ∨ f.toNat = 3 ∨ f.toNat = 4 := by omega
    have p16 : (2 : Int) ^ f.toNat = 2 ∨ (2 : Int) ^ f.toNat = 4 ∨ (2 : Int) ^ f.toNat = 8 ∨ (2 : Int) ^ f.toNat = 16 := by
      rcases hf4 with e | e | e | e <;> rw [e] <;> decide
    have pn : (((2 : Nat) ^ f.toNat : Nat) : Int) = 2 ^ f.toNat := by rw [Int.natCast_pow]; rfl
    have fe : f.toNat - 1 + 1 = f.toNat := by omega
    have e78 : Sa 78 = S 78 := e2 78 (by omega) (by omega)
    rw [e78] at r5
    have eo : ∀ k, (k < 59 ∨ 77 < k) → k ≠ 78 → (k < 95 ∨ 100 < k) → Sb k = S k := fun k k0 k1 k2 => by rw [r4 k k1 k2, e2 k (by omega) (by omega)]
    have f78 : ∀ q, q ≠ 0 → q ≠ 21 → q ≠ 22 → q ≠ 23 → q ≠ 24 → Sb 78 q = S 78 q := fun q k0 k1 k2 k3 k4 => by
      rw [r5]; unfold imp78; rw [jup_ne _ _ k1, jup_ne _ _ k3, jup_ne _ _ k4, jup_ne _ _ k2, jup_ne _ _ k0]
    have g21 : Sb 78 21 = a / (2 * 2 ^ f.toNat) := by rw [r5]; unfold imp78; rw [jup_same]
    have g23 : Sb 78 23 = 2 ^ f.toNat := by rw [r5]; unfold imp78; rw [jup_ne _ _ (by omega), jup_same]
    have g24 : Sb 78 24 = y := by rw [r5]; unfold imp78; rw [jup_ne _ _ (by omega), jup_ne _ _ (by omega), jup_same]
    have g0 : Sb 78 0 = 0 := by rw [r5]; unfold imp78; rw [jup_ne _ _ (by omega), jup_ne _ _ (by omega), jup_ne _ _ (by omega), jup_ne _ _ (by omega), jup_same]
    have q59 : Sb 59 = Sa 59 := r4 59 (by omega) (by omega)
    have a59 : Sb 59 2 = a / (2 * 2 ^ f.toNat) ∧ Sb 59 3 = 2 ^ f.toNat ∧ Sb 59 4 = y := by
      rw [q59, e3]
      exact ⟨by rw [jup_ne _ _ (by omega), jup_ne _ _ (by omega), jup_same], by rw [jup_ne _ _ (by omega), jup_same], by rw [jup_same]⟩
    have ad : 0 ≤ a / (2 * 2 ^ f.toNat) ∧ a / (2 * 2 ^ f.toNat) ≤ 32 := by
      rcases p16 with e | e | e | e <;> rw [e] <;> omega
    refine ⟨h2, Sb, r1, r2, ⟨I1_of i1 (fun k hk => eo k (by omega) (by omega) (by omega)), I2_of i2 (fun k hk => eo k (by omega) (by omega) (by omega)), I3_of i3 (eo 0 (by omega) (by omega) (by omega)) ⟨f78 3 (by omega) (by omega) (by omega) (by omega) (by omega), f78 4 (by omega) (by omega) (by omega) (by omega) (by omega)⟩, I4_of i4 (fun k hk => eo k (by omega) (by omega) (by omega)), ?_, I6_of i6 (fun k hk => eo k (by omega) (by omega) (by omega))⟩, g0, r3⟩
    unfold SR
    rw [g21, g23, g24, a59.1, a59.2.1, a59.2.2]
    refine ⟨rfl, rfl, rfl, fun nz => ⟨by omega, by omega, by omega, fun s hs => ?_, fun j hj => ?_⟩⟩
    · have s16 : s < 16 := by omega
      have sn : s < 2 ^ f.toNat := by omega
      have la := lv_all ⟨f.toNat - 1, by omega⟩ ⟨s, s16⟩ (by show s < 2 ^ (f.toNat - 1 + 1); rw [fe]; exact sn)
      simp only [fe] at la
      obtain ⟨w1, w2, w3, w4, w5⟩ := r7 s sn
      rw [r4 (61 + s) (by omega) (by omega), e5 s hs, w3, w4, w5]
      exact ⟨⟨rfl, rfl, rfl⟩, la.1, la.2.1, la.2.2⟩
    · have j16 : j < 16 := by omega
      have jn : j < 2 ^ f.toNat := by omega
      obtain ⟨s, s1', s2⟩ := ab_all ⟨f.toNat - 1, by omega⟩ ⟨j, j16⟩ (by show j < 2 ^ (f.toNat - 1 + 1); rw [fe]; exact jn)
      simp only [fe] at s1' s2
      have ex : ∃ z : Int, 0 ≤ z ∧ z < 0 + ((2 ^ f.toNat : Nat) : Int) ∧ (abv f.toNat z).toNat = j := ⟨(s.val : Int), by omega, by omega, s2⟩
      have e77 : Sb 77 = Sa 77 := r4 77 (by omega) (by omega)
      rw [e77, e4, r6, sft_eq (m := 16) _ _ _ (S 77) j (Or.inr ex), sft_eq (m := 16) (d := abv f.toNat) _ _ (Sa 95) (S 77) j (Or.inr ex)]
      have rg := sft_rng (d := abv f.toNat) (m := 2 ^ f.toNat) (2 ^ f.toNat) 0 (S 77) j (by omega) (by omega) (Or.inr ex)
      exact ⟨rfl, rg⟩
  · rw [if_neg c1] at pc
    refine op_ex H Q (by omega) (w_impose_x9 hW H pc) (fun h' H' => ?_)
    have qc := q_impose hW ha hf hy H'
    rw [if_neg c1] at qc
    exact qc
end ODS
