section SI
variable {V : Nat → Value} {W : xWt} {N : Nat} {T : Nat → Nat → Int64}
theorem q_sepLoop1 (hW : xFix V W) {p : Int} (hp : 0 ≤ p ∧ p < 4) : ∀ (n : Nat) (c : Int) (h : xH) (S : Nat → Nat → Int), HP N h S T → (0 ≤ S 78 3 ∧ S 78 3 ≤ 100) → (200 ≤ S 78 4 ∧ S 78 4 ≤ 1020) → (∀ j, j < 512 → 0 ≤ S 79 j ∧ S 79 j ≤ 255) → 0 ≤ c → c + n = 64 →
    ∃ h' S', W m_Mod_separate (34, [some (.ref (N + 78)), some (.int (Int32.ofInt p)), some (.int (Int32.ofInt c)), none], []) h = W m_Mod_separate (59, [some (.ref (N + 78)), some (.int (Int32.ofInt p)), some (.int (Int32.ofInt 64)), none], []) h' ∧ HP N h' S' T ∧ h'.2 = h.2 ∧ (∀ k, k ≠ 84 → k ≠ 86 → k ≠ 87 → S' k = S k) ∧
      (∀ j : Nat, j < 512 → c ≤ j / 8 → S' 84 (512 * p.toNat + j) = sepA (S 79) (S 78 3) (S 78 4) (j / 8) (j % 8)) ∧ (∀ q : Nat, ((q : Int) < 512 * p + 8 * c ∨ 512 * p + 512 ≤ (q : Int)) → S' 84 q = S 84 q) ∧ (∀ k : Nat, c ≤ k → k < 64 → S' 86 k = 0) ∧ (∀ k : Nat, (k : Int) < c → S' 86 k = S 86 k) := by
  intro n
  induction n with
  | zero =>
    intro c h S H hs hl hA h0 h1
    have e : c = 64 := by omega
    subst e
    refine ⟨h, S, ?_, H, rfl, fun _ _ _ _ => rfl, fun j hj hc => by omega, fun _ _ => rfl, fun k a b => by omega, fun _ _ => rfl⟩
    rw [L_Mod_separate_34 hW]
    simp (disch := omega) only [↓reduceIte, S0, S1, J_lt, J_le, J_eq, J_ldI, J_ldI3, J_ldB, J_ldL, J_ldR, J_stI, J_stB, J_stL, J_dv, j_gne, C0, CM, CP, CR, CJ, CS, CL, and_self, and_true, true_and, and_false, false_and, or_true, true_or, or_false, false_or, not_true_eq_false, not_false_eq_true, Option.map_some, J_ltT, J_ltF, J_leT, J_leF, J_eqT, J_eqF, J_ntT, J_ntF]
  | succ n ih =>
    intro c h S H hs hl hA h0 h1
    obtain ⟨Q', G', e1, e2, e3⟩ := q_sepColour hW (N := N) (h := h) (H.get (k := 78) (by omega)) (H.get (k := 79) (by omega)) (H.get (k := 87) (by omega)) (H.get (k := 84) (by omega)) hp (c := c) ⟨h0, by omega⟩ hs hl hA
    have H1 := H.put (k := 87) (by omega) Q' (e := jA 0 4 Q') rfl
    have H2 := H1.put (k := 84) (by omega) G' (e := jA 0 2048 G') rfl
    have H3 := H2.put (k := 86) (by omega) (jup (S 86) c.toNat 0) (e := jA 2 64 (jup (S 86) c.toNat 0)) rfl
    have hS : ∀ k, k ≠ 84 → k ≠ 86 → k ≠ 87 → sup (sup (sup S 87 Q') 84 G') 86 (jup (S 86) c.toNat 0) k = S k := fun k a b d => by rw [sup_ne _ _ b, sup_ne _ _ a, sup_ne _ _ d]
    obtain ⟨h', S', r1, r2, r3, r4, r5, r6, r7, r8⟩ := ih (c + 1) _ _ H3 (by rw [hS 78 (by decide) (by decide) (by decide)]; exact hs) (by rw [hS 78 (by decide) (by decide) (by decide)]; exact hl) (by rw [hS 79 (by decide) (by decide) (by decide)]; exact hA) (by omega) (by omega)
    rw [hS 78 (by decide) (by decide) (by decide), hS 79 (by decide) (by decide) (by decide)] at r5
    have g84 : sup (sup (sup S 87 Q') 84 G') 86 (jup (S 86) c.toNat 0) 84 = G' := by rw [sup_ne _ _ (by decide), sup_same]
    have g86 : sup (sup (sup S 87 Q') 84 G') 86 (jup (S 86) c.toNat 0) 86 = jup (S 86) c.toNat 0 := sup_same _ _ _
    rw [g84] at r6
    rw [g86] at r8
    refine ⟨h', S', ?_, r2, r3, fun k a b d => by rw [r4 k a b d, hS k a b d], fun j hj hc => ?_, fun q hq => ?_, fun k a b => ?_, fun k a => ?_⟩
    · rw [L_Mod_separate_34 hW]
      simp (disch := omega) only [↓reduceIte, S0, S1, J_lt, J_le, J_eq, J_ldI, J_ldI3, J_ldB, J_ldL, J_ldR, J_stI, J_stB, J_stL, J_dv, j_gne, C0, CM, CP, CR, CJ, CS, CL, and_self, and_true, true_and, and_false, false_and, or_true, true_or, or_false, false_or, not_true_eq_false, not_false_eq_true, Option.map_some, J_ltT, J_ltF, J_leT, J_leF, J_eqT, J_eqF, J_ntT, J_ntF, E_Mod_separate hW, H.get, e1, r1]
    · by_cases z : (c + 1 : Int) ≤ j / 8
      · exact r5 j hj z
      · rw [r6 _ (by omega)]
        have := e2 (j % 8) (by omega) (by omega)
        rw [show (512 * p + 8 * c + (j : Int) % 8).toNat = 512 * p.toNat + j by omega] at this
        rw [this, show c = (j : Int) / 8 by omega]
    · rw [r6 q (by omega), e3 q (by omega)]
    · by_cases z : c + 1 ≤ k
      · exact r7 k z b
      · rw [r8 k (by omega), show k = c.toNat by omega, jup_same]
    · rw [r8 k (by omega), jup_ne _ _ (by omega)]
theorem q_sepLoop2 (hW : xFix V W) {p : Int} (hp : 0 ≤ p ∧ p < 4) : ∀ (n : Nat) (k : Int) (h : xH) (S : Nat → Nat → Int), HP N h S T → (∀ j, j < 12288 → 0 ≤ S 80 j ∧ S 80 j < 64) → (∀ c, c < 64 → S 86 c = 0 ∨ S 86 c = 1) → 3072 * p ≤ k → k + n = 3072 * p + 3072 →
    ∃ h' S', W m_Mod_separate (65, [some (.ref (N + 78)), some (.int (Int32.ofInt p)), some (.int (Int32.ofInt k)), none], []) h = W m_Mod_separate (115, [some (.ref (N + 78)), some (.int (Int32.ofInt p)), some (.int (Int32.ofInt (3072 * p + 3072))), none], []) h' ∧ HP N h' S' T ∧ h'.2 = h.2 ∧ (∀ k, k ≠ 83 → k ≠ 85 → k ≠ 86 → S' k = S k) ∧
      (∀ q : Nat, k ≤ q → (q : Int) < k + n → S' 83 q = S 80 q ∧ S' 85 q = 0) ∧ (∀ q : Nat, ((q : Int) < k ∨ k + n ≤ (q : Int)) → S' 83 q = S 83 q ∧ S' 85 q = S 85 q) ∧ (∀ c, c < 64 → S' 86 c = 0 ∨ S' 86 c = 1) ∧ (∀ c, c < 64 → decide (S' 86 c = 1) = usd (S 80) n k (fun c => decide (S 86 c = 1)) c) := by
  intro n
  induction n with
  | zero =>
    intro k h S H hC hU h0 h1
    have e : k = 3072 * p + 3072 := by omega
    refine ⟨h, S, ?_, H, rfl, fun _ _ _ _ => rfl, fun q a b => by omega, fun _ _ => ⟨rfl, rfl⟩, hU, fun _ _ => rfl⟩
    rw [L_Mod_separate_65 hW, e]
    simp (disch := omega) only [↓reduceIte, S0, S1, J_lt, J_le, J_eq, J_ldI, J_ldI3, J_ldB, J_ldL, J_ldR, J_stI, J_stB, J_stL, J_dv, j_gne, C0, CM, CP, CR, CJ, CS, CL, and_self, and_true, true_and, and_false, false_and, or_true, true_or, or_false, false_or, not_true_eq_false, not_false_eq_true, Option.map_some, J_ltT, J_ltF, J_leT, J_leF, J_eqT, J_eqF, J_ntT, J_ntF]
  | succ n ih =>
    intro k h S H hC hU h0 h1
    obtain ⟨c0, c1⟩ := hC k.toNat (by omega)
    have H1 := H.put (k := 83) (by omega) (jup (S 83) k.toNat (S 80 k.toNat)) (e := jA 0 12288 (jup (S 83) k.toNat (S 80 k.toNat))) rfl
    have H2 := H1.put (k := 85) (by omega) (jup (S 85) k.toNat 0) (e := jA 0 12288 (jup (S 85) k.toNat 0)) rfl
    have H3 := H2.put (k := 86) (by omega) (jup (S 86) (S 80 k.toNat).toNat 1) (e := jA 2 64 (jup (S 86) (S 80 k.toNat).toNat 1)) rfl
    have hS : ∀ q, q ≠ 83 → q ≠ 85 → q ≠ 86 → sup (sup (sup S 83 (jup (S 83) k.toNat (S 80 k.toNat))) 85 (jup (S 85) k.toNat 0)) 86 (jup (S 86) (S 80 k.toNat).toNat 1) q = S q := fun q a b d => by rw [sup_ne _ _ d, sup_ne _ _ b, sup_ne _ _ a]
    have g83 : sup (sup (sup S 83 (jup (S 83) k.toNat (S 80 k.toNat))) 85 (jup (S 85) k.toNat 0)) 86 (jup (S 86) (S 80 k.toNat).toNat 1) 83 = jup (S 83) k.toNat (S 80 k.toNat) := by rw [sup_ne _ _ (by decide), sup_ne _ _ (by decide), sup_same]
    have g85 : sup (sup (sup S 83 (jup (S 83) k.toNat (S 80 k.toNat))) 85 (jup (S 85) k.toNat 0)) 86 (jup (S 86) (S 80 k.toNat).toNat 1) 85 = jup (S 85) k.toNat 0 := by rw [sup_ne _ _ (by decide), sup_same]
    have g86 : sup (sup (sup S 83 (jup (S 83) k.toNat (S 80 k.toNat))) 85 (jup (S 85) k.toNat 0)) 86 (jup (S 86) (S 80 k.toNat).toNat 1) 86 = jup (S 86) (S 80 k.toNat).toNat 1 := sup_same _ _ _
    have hU' : ∀ c, c < 64 → jup (S 86) (S 80 k.toNat).toNat 1 c = 0 ∨ jup (S 86) (S 80 k.toNat).toNat 1 c = 1 := fun c hc => by
      unfold jup
      split
      · exact Or.inr rfl
      · exact hU c hc
    obtain ⟨h', S', r1, r2, r3, r4, r5, r6, r7, r8⟩ := ih (k + 1) _ _ H3 (by rw [hS 80 (by decide) (by decide) (by decide)]; exact hC) (by rw [g86]; exact hU') (by omega) (by omega)
    rw [hS 80 (by decide) (by decide) (by decide)] at r5 r8
    rw [g83, g85] at r6
    rw [g86] at r8
    refine ⟨h', S', ?_, r2, r3, fun q a b d => by rw [r4 q a b d, hS q a b d], fun q a b => ?_, fun q hq => ?_, r7, fun c hc => ?_⟩
    · rw [L_Mod_separate_65 hW]
      simp (disch := omega) only [↓reduceIte, S0, S1, J_lt, J_le, J_eq, J_ldI, J_ldI3, J_ldB, J_ldL, J_ldR, J_stI, J_stB, J_stL, J_dv, j_gne, C0, CM, CP, CR, CJ, CS, CL, and_self, and_true, true_and, and_false, false_and, or_true, true_or, or_false, false_or, not_true_eq_false, not_false_eq_true, Option.map_some, J_ltT, J_ltF, J_leT, J_leF, J_eqT, J_eqF, J_ntT, J_ntF, E_Mod_separate hW, H.get, r1]
    · by_cases z : k + 1 ≤ q
      · exact r5 q z (by omega)
      · obtain ⟨a1, a2⟩ := r6 q (by omega)
        rw [a1, a2, show q = k.toNat by omega, jup_same, jup_same]
        exact ⟨rfl, rfl⟩
    · obtain ⟨a1, a2⟩ := r6 q (by omega)
      rw [a1, a2, jup_ne _ _ (by omega), jup_ne _ _ (by omega)]
      exact ⟨rfl, rfl⟩
    · rw [r8 c hc]
      show usd (S 80) n (k + 1) _ c = usd (S 80) n (k + 1) _ c
      congr 1
      funext c'
      unfold jup
      split <;> simp
theorem q_sepLoop3 (hW : xFix V W) {h : xH} {S : Nat → Nat → Int} (H : HP N h S T) {p : Int} (hU : ∀ c, c < 64 → S 86 c = 0 ∨ S 86 c = 1) : ∀ (n c : Nat) (x : Int), c + n = 64 →
    W m_Mod_separate (119, [some (.ref (N + 78)), some (.int (Int32.ofInt p)), some (.int (Int32.ofInt x)), some (.int (Int32.ofInt c))], []) h = some (.inl (some (jI (x + (cntB (fun c => decide (S 86 c = 1)) n c : Nat)))), h) := by
  intro n
  induction n with
  | zero =>
    intro c x h1
    rw [L_Mod_separate_119 hW]
    simp (disch := omega) only [↓reduceIte, S0, S1, J_lt, J_le, J_eq, J_ldI, J_ldI3, J_ldB, J_ldL, J_ldR, J_stI, J_stB, J_stL, J_dv, j_gne, C0, CM, CP, CR, CJ, CS, CL, and_self, and_true, true_and, and_false, false_and, or_true, true_or, or_false, false_or, not_true_eq_false, not_false_eq_true, Option.map_some, J_ltT, J_ltF, J_leT, J_leF, J_eqT, J_eqF, J_ntT, J_ntF, E_Mod_separate hW]
    show _ = some (Sum.inl (some (jI (x + ((0 : Nat) : Int)))), h)
    rw [show x + ((0 : Nat) : Int) = x by omega]
  | succ n ih =>
    intro c x h1
    rw [L_Mod_separate_119 hW]
    have hu := hU c (by omega)
    by_cases e : S 86 c = 1
    · have ih1 := ih (c + 1) (x + 1) (by omega)
      rw [show (((c + 1 : Nat) : Int)) = (c : Int) + 1 by omega] at ih1
      simp (disch := omega) only [↓reduceIte, S0, S1, J_lt, J_le, J_eq, J_ldI, J_ldI3, J_ldB, J_ldL, J_ldR, J_stI, J_stB, J_stL, J_dv, j_gne, C0, CM, CP, CR, CJ, CS, CL, and_self, and_true, true_and, and_false, false_and, or_true, true_or, or_false, false_or, not_true_eq_false, not_false_eq_true, Option.map_some, J_ltT, J_ltF, J_leT, J_leF, J_eqT, J_eqF, J_ntT, J_ntF, E_Mod_separate hW, H.get, Int.toNat_natCast, e, ih1, cntB, decide_true]
      rw [show x + 1 + ((cntB (fun c => decide (S 86 c = 1)) n (c + 1) : Nat) : Int) = x + ((1 + cntB (fun c => decide (S 86 c = 1)) n (c + 1) : Nat) : Int) by omega]
    · have e0 : S 86 c = 0 := by omega
      have ih1 := ih (c + 1) (x + 0) (by omega)
      rw [show (((c + 1 : Nat) : Int)) = (c : Int) + 1 by omega] at ih1
      simp (disch := omega) only [↓reduceIte, S0, S1, J_lt, J_le, J_eq, J_ldI, J_ldI3, J_ldB, J_ldL, J_ldR, J_stI, J_stB, J_stL, J_dv, j_gne, C0, CM, CP, CR, CJ, CS, CL, and_self, and_true, true_and, and_false, false_and, or_true, true_or, or_false, false_or, not_true_eq_false, not_false_eq_true, Option.map_some, J_ltT, J_ltF, J_leT, J_leF, J_eqT, J_eqF, J_ntT, J_ntF, E_Mod_separate hW, H.get, Int.toNat_natCast, e0, ih1, cntB]
      rw [Int.add_zero, show ((if decide False = true then 1 else 0) + cntB (fun c => decide (S 86 c = 1)) n (c + 1)) = cntB (fun c => decide (S 86 c = 1)) n (c + 1) by simp]
theorem q_separate (hW : xFix V W) {h : xH} {S : Nat → Nat → Int} (H : HP N h S T) {p : Int} (hp : j32 p) (hs : 0 ≤ S 78 3 ∧ S 78 3 ≤ 100) (hl : 200 ≤ S 78 4 ∧ S 78 4 ≤ 1020) (hA : ∀ j, j < 512 → 0 ≤ S 79 j ∧ S 79 j ≤ 255) (hC : ∀ j, j < 12288 → 0 ≤ S 80 j ∧ S 80 j < 64) :
    if 0 ≤ p ∧ p < 4 then ∃ h' S', W m_Mod_separate (0, [some (.ref (N + 78)), some (.int (Int32.ofInt p)), none, none], []) h = some (.inl (some (jI ((cntB (usd (S 80) 3072 (3072 * p) (fun _ => false)) 64 0 : Nat) : Int))), h') ∧ HP N h' S' T ∧ h'.2 = h.2 ∧ (∀ k, k ≠ 78 → (k < 81 ∨ 87 < k) → S' k = S k) ∧ S' 78 = jup (S 78) 0 0 ∧ S' 81 = jup (S 81) p.toNat 1 ∧ S' 82 = jup (S 82) p.toNat 0 ∧
      (∀ j : Nat, j < 512 → S' 84 (512 * p.toNat + j) = sepA (S 79) (S 78 3) (S 78 4) (j / 8) (j % 8)) ∧ (∀ q : Nat, ((q : Int) < 512 * p ∨ 512 * p + 512 ≤ (q : Int)) → S' 84 q = S 84 q) ∧
      (∀ q : Nat, 3072 * p ≤ q → (q : Int) < 3072 * p + 3072 → S' 83 q = S 80 q ∧ S' 85 q = 0) ∧ (∀ q : Nat, ((q : Int) < 3072 * p ∨ 3072 * p + 3072 ≤ (q : Int)) → S' 83 q = S 83 q ∧ S' 85 q = S 85 q)
    else W m_Mod_separate (0, [some (.ref (N + 78)), some (.int (Int32.ofInt p)), none, none], []) h = some (.inl (some (jI 0)), hth N h S T 1) := by
  by_cases c1 : 0 ≤ p ∧ p < 4
  · rw [if_pos c1]
    have H1 := H.th 0
    have H2 := H1.put (k := 81) (by omega) (jup (S 81) p.toNat 1) (e := jA 2 4 (jup (S 81) p.toNat 1)) rfl
    have H3 := H2.put (k := 82) (by omega) (jup (S 82) p.toNat 0) (e := jA 2 4 (jup (S 82) p.toNat 0)) rfl
    generalize hS3 : sup (sup (sup S 78 (jup (S 78) 0 0)) 81 (jup (S 81) p.toNat 1)) 82 (jup (S 82) p.toNat 0) = S3 at H3
    have g : ∀ k, k ≠ 78 → k ≠ 81 → k ≠ 82 → S3 k = S k := fun k a b d => by rw [← hS3, sup_ne _ _ d, sup_ne _ _ b, sup_ne _ _ a]
    have g78 : S3 78 = jup (S 78) 0 0 := by rw [← hS3, sup_ne _ _ (by decide), sup_ne _ _ (by decide), sup_same]
    have g81 : S3 81 = jup (S 81) p.toNat 1 := by rw [← hS3, sup_ne _ _ (by decide), sup_same]
    have g82 : S3 82 = jup (S 82) p.toNat 0 := by rw [← hS3, sup_same]
    have e3 : S3 78 3 = S 78 3 := by rw [g78]; rfl
    have e4 : S3 78 4 = S 78 4 := by rw [g78]; rfl
    obtain ⟨h4, S4, a1, a2, a3, a4, a5, a6, a7, a8⟩ := q_sepLoop1 hW c1 64 0 _ S3 H3 (by rw [e3]; exact hs) (by rw [e4]; exact hl) (by rw [g 79 (by decide) (by decide) (by decide)]; exact hA) (by omega) (by omega)
    rw [e3, e4, g 79 (by decide) (by decide) (by decide)] at a5
    have u0 : ∀ c, c < 64 → S4 86 c = 0 := fun c hc => a7 c (by omega) hc
    have s80 : S4 80 = S 80 := by rw [a4 80 (by decide) (by decide) (by decide), g 80 (by decide) (by decide) (by decide)]
    obtain ⟨h5, S5, b1, b2, b3, b4, b5, b6, b7, b8⟩ := q_sepLoop2 hW c1 3072 (3072 * p) h4 S4 a2 (by rw [s80]; exact hC) (fun c hc => Or.inl (u0 c hc)) (by omega) (by omega)
    rw [s80] at b5 b8
    have d1 := q_sepLoop3 hW b2 (p := p) b7 64 0 0 (by omega)
    have ecnt : cntB (fun c => decide (S5 86 c = 1)) 64 0 = cntB (usd (S 80) 3072 (3072 * p) (fun _ => false)) 64 0 := by
      refine cntB_congr 64 0 (fun q _ hq => ?_)
      rw [b8 q (by omega)]
      have : ∀ (n : Nat) (k : Int) (g g' : Nat → Bool), (∀ c, c < 64 → g c = g' c) → ∀ c, c < 64 → usd (S 80) n k g c = usd (S 80) n k g' c := by
        intro n
        induction n with
        | zero => intro k g g' hg c hc; exact hg c hc
        | succ n ih =>
          intro k g g' hg c hc
          refine ih (k + 1) _ _ (fun c hc => ?_) c hc
          rw [hg c hc]
      exact this 3072 (3072 * p) _ _ (fun c hc => by rw [u0 c hc]; rfl) q (by omega)
    refine ⟨h5, S5, ?_, b2, ?_, fun k k1 k2 => ?_, ?_, ?_, ?_, fun j hj => ?_, fun q hq => ?_, fun q q1 q2 => b5 q q1 (by omega), fun q hq => ?_⟩
    · rw [← ecnt]
      simp (disch := omega) only [↓reduceIte, S0, S1, J_lt, J_le, J_eq, J_ldI, J_ldI3, J_ldB, J_ldL, J_ldR, J_stI, J_stB, J_stL, J_dv, j_gne, C0, CM, CP, CR, CJ, CS, CL, and_self, and_true, true_and, and_false, false_and, or_true, true_or, or_false, false_or, not_true_eq_false, not_false_eq_true, Option.map_some, J_ltT, J_ltF, J_leT, J_leF, J_eqT, J_eqF, J_ntT, J_ntF, E_Mod_separate hW, q_isPage hW, H.get, a1, b1]
      rw [show ((0 : Nat) : Int) = 0 from rfl] at d1
      rw [d1, Int.zero_add]
    · rw [b3, a3]; rfl
    · rw [b4 k (by omega) (by omega) (by omega), a4 k (by omega) (by omega) (by omega), g k k1 (by omega) (by omega)]
    · rw [b4 78 (by decide) (by decide) (by decide), a4 78 (by decide) (by decide) (by decide), g78]
    · rw [b4 81 (by decide) (by decide) (by decide), a4 81 (by decide) (by decide) (by decide), g81]
    · rw [b4 82 (by decide) (by decide) (by decide), a4 82 (by decide) (by decide) (by decide), g82]
    · rw [b4 84 (by decide) (by decide) (by decide)]
      exact a5 j hj (by omega)
    · rw [b4 84 (by decide) (by decide) (by decide), a6 q (by omega), g 84 (by decide) (by decide) (by decide)]
    · obtain ⟨z1, z2⟩ := b6 q (by omega)
      rw [z1, z2, a4 83 (by decide) (by decide) (by decide), a4 85 (by decide) (by decide) (by decide), g 83 (by decide) (by decide) (by decide), g 85 (by decide) (by decide) (by decide)]
      exact ⟨rfl, rfl⟩
  · rw [if_neg c1]
    simp (disch := omega) only [↓reduceIte, S0, S1, J_lt, J_le, J_eq, J_ldI, J_ldI3, J_ldB, J_ldL, J_ldR, J_stI, J_stB, J_stL, J_dv, j_gne, C0, CM, CP, CR, CJ, CS, CL, and_self, and_true, true_and, and_false, false_and, or_true, true_or, or_false, false_or, not_true_eq_false, not_false_eq_true, Option.map_some, E_Mod_separate hW, q_isPage hW, show ¬ (0 ≤ p ∧ p ≤ 3) by omega, E_Mod_fail hW, H.get, j_ss, jup_jup]
end SI
