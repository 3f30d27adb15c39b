/-! the reference: screen, rank, dot, share, proof -/
def KNi (S : Nat → Nat → Int) (i : Nat) : Prop := S 91 i = 0 ∨ KD S i (S 88 i) (S 89 i) (S 90 i)
def KG (S S' : Nat → Nat → Int) : Prop := (∀ k, k ≠ 78 → k ≠ 91 → k ≠ 92 → k ≠ 93 → k ≠ 94 → S' k = S k) ∧ (∀ f, f ≠ 19 → f ≠ 20 → S' 78 f = S 78 f) ∧ ∀ i, i < 8 → KNi S i → KNi S' i
theorem KG_refl {S : Nat → Nat → Int} : KG S S := ⟨fun _ _ _ _ _ _ => rfl, fun _ _ _ => rfl, fun _ _ h => h⟩
theorem KG_trans {S S' S'' : Nat → Nat → Int} (h : KG S S') (h' : KG S' S'') : KG S S'' :=
  ⟨fun k a b c d e => (h'.1 k a b c d e).trans (h.1 k a b c d e), fun f a b => (h'.2.1 f a b).trans (h.2.1 f a b), fun i hi k => h'.2.2 i hi (h.2.2 i hi k)⟩
theorem KG.e {S S' : Nat → Nat → Int} (h : KG S S') {k : Nat} (hk : k ≠ 78 ∧ k ≠ 91 ∧ k ≠ 92 ∧ k ≠ 93 ∧ k ≠ 94) : S' k = S k := h.1 k hk.1 hk.2.1 hk.2.2.1 hk.2.2.2.1 hk.2.2.2.2
theorem KF.e {i : Nat} {S S' : Nat → Nat → Int} (h : KF i S S') {k : Nat} (hk : k ≠ 78 ∧ k ≠ 91 ∧ k ≠ 92 ∧ k ≠ 93 ∧ k ≠ 94) : S' k = S k := h.1 k hk.1 hk.2.1 hk.2.2.1 hk.2.2.2.1 hk.2.2.2.2
theorem HL_cg {a b s : Int} {X Y X' Y' : Nat → Int} {m : Nat} (h : HL a b s X Y m) (e : ∀ k, k < m → X' k = X k ∧ Y' k = Y k) : HL a b s X' Y' m := by
  refine ⟨fun k hk => ?_, fun j k h1 h2 => ?_⟩
  · rw [(e k hk).1, (e k hk).2]; exact h.1 k hk
  · rw [(e k h2).1, (e k h2).2, (e j (by omega)).1, (e j (by omega)).2]; exact h.2 j k h1 h2
theorem KG_of {S S' : Nat → Nat → Int} {i : Nat} (hi : i < 8) (C : ∀ j, j < 8 → SCi S j) (F : KF i S S') (D : KD S' i (S 88 i) (S 89 i) (S 90 i)) : KG S S' := by
  refine ⟨F.1, F.2.1, fun j hj k => ?_⟩
  by_cases e : j = i
  · subst e
    right
    rw [F.e (k := 88) (by omega), F.e (k := 89) (by omega), F.e (k := 90) (by omega)]
    exact D
  · rcases k with k | ⟨k1, m, ⟨k2, k3⟩, k4⟩
    · left; rw [(F.2.2.1 j e).1]; exact k
    · right
      have Cj := C j hj
      have mb := HL_le Cj.1.2.2.2.2 Cj.2.2 k3
      have n4 := Cj.1.2.2.2
      rw [F.e (k := 88) (by omega), F.e (k := 89) (by omega), F.e (k := 90) (by omega)]
      have q : ∀ k, k < m → S' 93 (400 * j + k) = S 93 (400 * j + k) ∧ S' 94 (400 * j + k) = S 94 (400 * j + k) := fun k hk => F.2.2.2 _ (by omega)
      refine ⟨by rw [(F.2.2.1 j e).1]; exact k1, m, ⟨by rw [(F.2.2.1 j e).2]; exact k2, HL_cg k3 q⟩, fun x y hh => ?_⟩
      obtain ⟨k, c1, c2⟩ := k4 x y hh
      exact ⟨k, c1, by rw [(q k c1).1, (q k c1).2]; exact c2⟩
theorem prN_cg {d d' : Nat → Int} : ∀ (r k : Nat) (o : Int), (∀ i, k ≤ i → i < k + r → d i = d' i) → prN d r k o = prN d' r k o
  | 0, _, _, _ => rfl
  | r + 1, k, o, h => by
    simp only [prN]
    rw [h k (by omega) (by omega)]
    exact prN_cg r (k + 1) _ (fun i h1 h2 => h i (by omega) (by omega))
theorem SCi_of {S S' : Nat → Nat → Int} {i : Nat} (h : SCi S i) (e : ∀ k, (k = 88 ∨ k = 89 ∨ k = 90 ∨ k = 35 + 3 * i ∨ k = 36 + 3 * i ∨ k = 37 + 3 * i) → S' k = S k) : SCi S' i := by
  unfold SCi
  rw [e 88 (by omega), e 89 (by omega), e 90 (by omega), e (35 + 3 * i) (by omega), e (36 + 3 * i) (by omega), e (37 + 3 * i) (by omega)]
  exact h
theorem SCi_KG {S S' : Nat → Nat → Int} {i : Nat} (hi : i < 8) (h : SCi S i) (K : KG S S') : SCi S' i := SCi_of h (fun k hk => K.e (by omega))
theorem rkV_KG {S S' : Nat → Nat → Int} {i : Nat} (hi : i < 8) (K : KG S S') (x y : Int) : rkV S' i x y = rkV S i x y := by
  unfold rkV
  rw [K.e (k := 88) (by omega), K.e (k := 89) (by omega), K.e (k := 35 + 3 * i) (by omega), K.e (k := 36 + 3 * i) (by omega)]
theorem dotV_KG {S S' : Nat → Nat → Int} {i : Nat} (hi : i < 8) (K : KG S S') (p x y : Int) : dotV S' p i x y = dotV S p i x y := by
  unfold dotV
  rw [rkV_KG hi K, K.e (k := 88) (by omega), K.e (k := 89) (by omega), K.e (k := 83) (by omega), K.e (k := 84) (by omega), K.e (k := 85) (by omega)]
theorem JR_of {S S' : Nat → Nat → Int} {p : Nat} (J : JR S p) (e : ∀ k, (k = 83 ∨ k = 84 ∨ k = 85 ∨ k = 9 + 4 * p ∨ k = 10 + 4 * p ∨ k = 11 + 4 * p) → S' k = S k) : JR S' p := by
  unfold JR
  rw [e 83 (by omega), e 84 (by omega), e 85 (by omega), e (9 + 4 * p) (by omega), e (10 + 4 * p) (by omega), e (11 + 4 * p) (by omega)]
  exact J
section QJS
variable {V : Nat → Value} {W : xWt} {N : Nat} {T : Nat → Nat → Int64}
def scS (S : Nat → Nat → Int) (i : Nat) (a b s : Int) : Nat → Nat → Int := sup (sup (sup (sup (sup S 78 (jup (S 78) 0 0)) 88 (jup (S 88) i a)) 89 (jup (S 89) i b)) 90 (jup (S 90) i s)) 91 (jup (S 91) i 0)
theorem q_screen (hW : xFix V W) {S : Nat → Nat → Int} {h : xH} (H : HP N h S T) {ink a b s : Int} (h1 : j32 ink) (h2 : j32 a) (h3 : j32 b) (h4 : j32 s) :
    if 0 ≤ ink ∧ ink < 8 then (if ((-20 ≤ a ∧ a ≤ 20) ∧ (-20 ≤ b ∧ b ≤ 20)) ∧ (1 ≤ a * a + b * b ∧ a * a + b * b ≤ 400) ∧ (0 ≤ s ∧ s ≤ 2) then
      ∃ h' : xH, W m_Mod_screen (0, [some (.ref (N + 78)), some (.int (Int32.ofInt ink)), some (.int (Int32.ofInt a)), some (.int (Int32.ofInt b)), some (.int (Int32.ofInt s)), none], []) h = some (.inl (some (jI (a * a + b * b))), h') ∧ HP N h' (scS S ink.toNat a b s) T ∧ h'.2 = h.2
      else W m_Mod_screen (0, [some (.ref (N + 78)), some (.int (Int32.ofInt ink)), some (.int (Int32.ofInt a)), some (.int (Int32.ofInt b)), some (.int (Int32.ofInt s)), none], []) h = some (.inl (some (jI 0)), hth N h S T 2)) else W m_Mod_screen (0, [some (.ref (N + 78)), some (.int (Int32.ofInt ink)), some (.int (Int32.ofInt a)), some (.int (Int32.ofInt b)), some (.int (Int32.ofInt s)), none], []) h = some (.inl (some (jI 0)), hth N h S T 1) := by
  by_cases c1 : 0 ≤ ink ∧ ink < 8
  · have c1' : 0 ≤ ink ∧ ink ≤ 7 := by omega
    rw [if_pos c1]
    by_cases c2 : -20 ≤ a ∧ a ≤ 20
    · by_cases c3 : -20 ≤ b ∧ b ≤ 20
      · have m1 := mulb c2 c2
        have m2 := mulb c3 c3
        by_cases c4 : 1 ≤ a * a + b * b ∧ a * a + b * b ≤ 400
        · by_cases c5 : 0 ≤ s ∧ s ≤ 2
          · rw [if_pos ⟨⟨c2, c3⟩, c4, c5⟩]
            have H0 := H.put (k := 78) (by omega) (jup (S 78) 0 0) rfl
            have H1 := H0.put (k := 88) (by omega) (jup (S 88) ink.toNat a) rfl
            have H2 := H1.put (k := 89) (by omega) (jup (S 89) ink.toNat b) rfl
            have H3 := H2.put (k := 90) (by omega) (jup (S 90) ink.toNat s) rfl
            have H4 := H3.put (k := 91) (by omega) (jup (S 91) ink.toNat 0) rfl
            refine ⟨_, ?_, H4, rfl⟩
            simp (disch := omega) only [↓reduceIte, S0, S1, J_lt, J_le, J_eq, J_ldI, J_ldI3, J_ldB, J_ldL, J_ldR, J_stI, J_stB, J_stL, J_dv, j_gne, C0, CM, CP, CR, CJ, CS, CL, and_self, and_true, true_and, and_false, false_and, or_true, true_or, or_false, false_or, not_true_eq_false, not_false_eq_true, Option.map_some, J_ltT, J_ltF, J_leT, J_leF, J_eqT, J_eqF, J_ntT, J_ntF, E_Mod_screen hW, H.get, q_within hW, c1', c2, c3, c4, c5]
          · rw [if_neg (fun q => c5 q.2.2)]
            simp (disch := omega) only [↓reduceIte, S0, S1, J_lt, J_le, J_eq, J_ldI, J_ldI3, J_ldB, J_ldL, J_ldR, J_stI, J_stB, J_stL, J_dv, j_gne, C0, CM, CP, CR, CJ, CS, CL, and_self, and_true, true_and, and_false, false_and, or_true, true_or, or_false, false_or, not_true_eq_false, not_false_eq_true, Option.map_some, J_ltT, J_ltF, J_leT, J_leF, J_eqT, J_eqF, J_ntT, J_ntF, E_Mod_screen hW, H.get, q_within hW, c1', c2, c3, c4, c5, E_Mod_fail hW, j_ss, jup_jup]
        · rw [if_neg (fun q => c4 q.2.1)]
          simp (disch := omega) only [↓reduceIte, S0, S1, J_lt, J_le, J_eq, J_ldI, J_ldI3, J_ldB, J_ldL, J_ldR, J_stI, J_stB, J_stL, J_dv, j_gne, C0, CM, CP, CR, CJ, CS, CL, and_self, and_true, true_and, and_false, false_and, or_true, true_or, or_false, false_or, not_true_eq_false, not_false_eq_true, Option.map_some, J_ltT, J_ltF, J_leT, J_leF, J_eqT, J_eqF, J_ntT, J_ntF, E_Mod_screen hW, H.get, q_within hW, c1', c2, c3, c4, E_Mod_fail hW, j_ss, jup_jup]
      · rw [if_neg (fun q => c3 q.1.2)]
        simp (disch := omega) only [↓reduceIte, S0, S1, J_lt, J_le, J_eq, J_ldI, J_ldI3, J_ldB, J_ldL, J_ldR, J_stI, J_stB, J_stL, J_dv, j_gne, C0, CM, CP, CR, CJ, CS, CL, and_self, and_true, true_and, and_false, false_and, or_true, true_or, or_false, false_or, not_true_eq_false, not_false_eq_true, Option.map_some, J_ltT, J_ltF, J_leT, J_leF, J_eqT, J_eqF, J_ntT, J_ntF, E_Mod_screen hW, H.get, q_within hW, c1', c2, c3, show ¬ ((1 : Int) ≤ 0 ∧ (0 : Int) ≤ 400) by omega, E_Mod_fail hW, j_ss, jup_jup]
    · rw [if_neg (fun q => c2 q.1.1)]
      simp (disch := omega) only [↓reduceIte, S0, S1, J_lt, J_le, J_eq, J_ldI, J_ldI3, J_ldB, J_ldL, J_ldR, J_stI, J_stB, J_stL, J_dv, j_gne, C0, CM, CP, CR, CJ, CS, CL, and_self, and_true, true_and, and_false, false_and, or_true, true_or, or_false, false_or, not_true_eq_false, not_false_eq_true, Option.map_some, J_ltT, J_ltF, J_leT, J_leF, J_eqT, J_eqF, J_ntT, J_ntF, E_Mod_screen hW, H.get, q_within hW, c1', c2, show ¬ ((1 : Int) ≤ 0 ∧ (0 : Int) ≤ 400) by omega, E_Mod_fail hW, j_ss, jup_jup]
  · rw [if_neg c1]
    simp (disch := omega) only [↓reduceIte, S0, S1, J_lt, J_le, J_eq, J_ldI, J_ldI3, J_ldB, J_ldL, J_ldR, J_stI, J_stB, J_stL, J_dv, j_gne, C0, CM, CP, CR, CJ, CS, CL, and_self, and_true, true_and, and_false, false_and, or_true, true_or, or_false, false_or, not_true_eq_false, not_false_eq_true, Option.map_some, J_ltT, J_ltF, J_leT, J_leF, J_eqT, J_eqF, J_ntT, J_ntF, E_Mod_screen hW, H.get, q_within hW, show ¬ (0 ≤ ink ∧ ink ≤ 7) by omega, E_Mod_fail hW, j_ss, jup_jup]
theorem q_rk (hW : xFix V W) {S : Nat → Nat → Int} {h : xH} (H : HP N h S T) {ink x y : Int} (hi : 0 ≤ ink ∧ ink < 8) (C : ∀ i, i < 8 → SCi S i) (K : ∀ i, i < 8 → KNi S i) (hx : -1000 ≤ x ∧ x ≤ 1000) (hy : -1000 ≤ y ∧ y ≤ 1000) :
    ∃ (h' : xH) (S' : Nat → Nat → Int), W m_Mod_rankOf (0, [some (.ref (N + 78)), some (.int (Int32.ofInt ink)), some (.int (Int32.ofInt x)), some (.int (Int32.ofInt y))], []) h = some (.inl (some (jI (rkV S ink.toNat x y))), h') ∧ HP N h' S' T ∧ h'.2 = h.2 ∧ KG S S' := by
  obtain ⟨⟨c1, c2, c3, c4⟩, c5, c6⟩ := C ink.toNat (by omega)
  obtain ⟨h', S', w1, w2, w3, w4, w5⟩ := q_rankOf hW H hi rfl rfl rfl c1 c2 c3 c4 c6 (K ink.toNat (by omega)) hx hy
  exact ⟨h', S', w1, w2, w3, KG_of (by omega) C w4 w5⟩
theorem th_KG {S : Nat → Nat → Int} {c : Int} {k : Nat} (h : k ≠ 78) : sup S 78 (jup (S 78) 0 c) k = S k := sup_ne _ _ h
theorem th_C {S : Nat → Nat → Int} {c : Int} {i : Nat} (hi : i < 8) (C : SCi S i) : SCi (sup S 78 (jup (S 78) 0 c)) i := SCi_of C (fun k hk => sup_ne _ _ (by omega))
theorem th_K {S : Nat → Nat → Int} {c : Int} {i : Nat} (K : KNi S i) : KNi (sup S 78 (jup (S 78) 0 c)) i := by
  unfold KNi KD KN at *
  simp (disch := omega) only [sup_ne]
  exact K
theorem th_rk {S : Nat → Nat → Int} {c : Int} {i : Nat} (hi : i < 8) (x y : Int) : rkV (sup S 78 (jup (S 78) 0 c)) i x y = rkV S i x y := by
  unfold rkV
  simp (disch := omega) only [sup_ne]
theorem th_dot {S : Nat → Nat → Int} {c : Int} {i : Nat} (hi : i < 8) (p x y : Int) : dotV (sup S 78 (jup (S 78) 0 c)) p i x y = dotV S p i x y := by
  unfold dotV
  rw [th_rk hi]
  simp (disch := omega) only [sup_ne]
theorem q_rank (hW : xFix V W) {S : Nat → Nat → Int} {h : xH} (H : HP N h S T) {ink x y : Int} (C : ∀ i, i < 8 → SCi S i) (K : ∀ i, i < 8 → KNi S i) (h1 : j32 ink) (h2 : j32 x) (h3 : j32 y) :
    if 0 ≤ ink ∧ ink < 8 then (if (-1000 ≤ x ∧ x ≤ 1000) ∧ (-1000 ≤ y ∧ y ≤ 1000) then ∃ (h' : xH) (S' : Nat → Nat → Int), W m_Mod_rank (0, [some (.ref (N + 78)), some (.int (Int32.ofInt ink)), some (.int (Int32.ofInt x)), some (.int (Int32.ofInt y))], []) h = some (.inl (some (jI (rkV S ink.toNat x y))), h') ∧ HP N h' S' T ∧ h'.2 = h.2 ∧ KG (sup S 78 (jup (S 78) 0 0)) S'
      else W m_Mod_rank (0, [some (.ref (N + 78)), some (.int (Int32.ofInt ink)), some (.int (Int32.ofInt x)), some (.int (Int32.ofInt y))], []) h = some (.inl (some (jI 0)), hth N h S T 2)) else W m_Mod_rank (0, [some (.ref (N + 78)), some (.int (Int32.ofInt ink)), some (.int (Int32.ofInt x)), some (.int (Int32.ofInt y))], []) h = some (.inl (some (jI 0)), hth N h S T 1) := by
  by_cases c1 : 0 ≤ ink ∧ ink < 8
  · have c1' : 0 ≤ ink ∧ ink ≤ 7 := by omega
    rw [if_pos c1]
    by_cases c2 : -1000 ≤ x ∧ x ≤ 1000
    · by_cases c3 : -1000 ≤ y ∧ y ≤ 1000
      · rw [if_pos ⟨c2, c3⟩]
        obtain ⟨h', S', w1, w2, w3, w4⟩ := q_rk hW (H.th 0) c1 (fun i hi => th_C hi (C i hi)) (fun i hi => th_K (K i hi)) c2 c3
        rw [th_rk (by omega)] at w1
        refine ⟨h', S', ?_, w2, w3, w4⟩
        simp (disch := omega) only [↓reduceIte, S0, S1, J_lt, J_le, J_eq, J_ldI, J_ldI3, J_ldB, J_ldL, J_ldR, J_stI, J_stB, J_stL, J_dv, j_gne, C0, CM, CP, CR, CJ, CS, CL, and_self, and_true, true_and, and_false, false_and, or_true, true_or, or_false, false_or, not_true_eq_false, not_false_eq_true, Option.map_some, J_ltT, J_ltF, J_leT, J_leF, J_eqT, J_eqF, J_ntT, J_ntF, E_Mod_rank hW, H.get, q_within hW, c1', c2, c3]
        rw [show xset h (N + 78) (cell N 78 (jup (S 78) 0 0) (T 78)) = hth N h S T 0 from rfl]
        simp (disch := omega) only [↓reduceIte, S0, S1, J_lt, J_le, J_eq, J_ldI, J_ldI3, J_ldB, J_ldL, J_ldR, J_stI, J_stB, J_stL, J_dv, j_gne, C0, CM, CP, CR, CJ, CS, CL, and_self, and_true, true_and, and_false, false_and, or_true, true_or, or_false, false_or, not_true_eq_false, not_false_eq_true, Option.map_some, w1, E_Mod_rank hW, (H.th 0).get]
      · rw [if_neg (fun q => c3 q.2)]
        simp (disch := omega) only [↓reduceIte, S0, S1, J_lt, J_le, J_eq, J_ldI, J_ldI3, J_ldB, J_ldL, J_ldR, J_stI, J_stB, J_stL, J_dv, j_gne, C0, CM, CP, CR, CJ, CS, CL, and_self, and_true, true_and, and_false, false_and, or_true, true_or, or_false, false_or, not_true_eq_false, not_false_eq_true, Option.map_some, J_ltT, J_ltF, J_leT, J_leF, J_eqT, J_eqF, J_ntT, J_ntF, E_Mod_rank hW, H.get, q_within hW, c1', c2, c3, E_Mod_fail hW, j_ss, jup_jup]
    · rw [if_neg (fun q => c2 q.1)]
      simp (disch := omega) only [↓reduceIte, S0, S1, J_lt, J_le, J_eq, J_ldI, J_ldI3, J_ldB, J_ldL, J_ldR, J_stI, J_stB, J_stL, J_dv, j_gne, C0, CM, CP, CR, CJ, CS, CL, and_self, and_true, true_and, and_false, false_and, or_true, true_or, or_false, false_or, not_true_eq_false, not_false_eq_true, Option.map_some, J_ltT, J_ltF, J_leT, J_leF, J_eqT, J_eqF, J_ntT, J_ntF, E_Mod_rank hW, H.get, q_within hW, c1', c2, E_Mod_fail hW, j_ss, jup_jup]
  · rw [if_neg c1]
    simp (disch := omega) only [↓reduceIte, S0, S1, J_lt, J_le, J_eq, J_ldI, J_ldI3, J_ldB, J_ldL, J_ldR, J_stI, J_stB, J_stL, J_dv, j_gne, C0, CM, CP, CR, CJ, CS, CL, and_self, and_true, true_and, and_false, false_and, or_true, true_or, or_false, false_or, not_true_eq_false, not_false_eq_true, Option.map_some, J_ltT, J_ltF, J_leT, J_leF, J_eqT, J_eqF, J_ntT, J_ntF, E_Mod_rank hW, H.get, q_within hW, show ¬ (0 ≤ ink ∧ ink ≤ 7) by omega, E_Mod_fail hW, j_ss, jup_jup]
theorem q_amt (hW : xFix V W) {S : Nat → Nat → Int} {h : xH} (H : HP N h S T) {p : Nat} (hp : p < 4) (J : JR S p) {ink x y : Int} (hi : 0 ≤ ink ∧ ink < 8) (hx : 0 ≤ x ∧ x < 48) (hy : 0 ≤ y ∧ y < 64) :
    W m_Mod_amountAt (0, [some (.ref (N + 78)), some (.int (Int32.ofInt ((p : Int)))), some (.int (Int32.ofInt ink)), some (.int (Int32.ofInt x)), some (.int (Int32.ofInt y)), none, none, none], []) h = some (.inl (some (jI (amtM (S 83) (S 85) (S 84) p ink x y))), h) := by
  obtain ⟨a1, a2, a3⟩ := J.1 (48 * y + x).toNat (by omega)
  obtain ⟨b1, b2, b3⟩ := J.2.1 (48 * y + x).toNat (by omega)
  rw [show 3072 * p + (48 * y + x).toNat = (3072 * (p : Int) + 48 * y + x).toNat by omega] at a1 a2 a3 b1 b2 b3
  exact q_amountAt hW H (p := p) (by omega) hi hx hy ⟨a2, a3⟩ ⟨b2, b3⟩ (fun j hj => by rw [Int.toNat_natCast]; exact (J.2.2 j hj).2)
theorem q_isDot (hW : xFix V W) {S : Nat → Nat → Int} {h : xH} (H : HP N h S T) {p i : Nat} (hp : p < 4) (hi : i < 8) (J : JR S p) (C : ∀ i, i < 8 → SCi S i) (K : ∀ i, i < 8 → KNi S i) {x y : Int} (hx : 0 ≤ x ∧ x < 48) (hy : 0 ≤ y ∧ y < 64) :
    ∃ (h' : xH) (S' : Nat → Nat → Int), W m_Mod_isDot (0, [some (.ref (N + 78)), some (.int (Int32.ofInt ((p : Int)))), some (.int (Int32.ofInt ((i : Int)))), some (.int (Int32.ofInt x)), some (.int (Int32.ofInt y))], []) h = some (.inl (some (jI (dotV S p i x y))), h') ∧ HP N h' S' T ∧ h'.2 = h.2 ∧ KG S S' := by
  obtain ⟨h', S', w1, w2, w3, w4⟩ := q_rk hW H (ink := i) (by omega) C K (x := x) (y := y) (by omega) (by omega)
  rw [Int.toNat_natCast] at w1
  have am := q_amt hW w2 hp (JR_of J (fun k hk => w4.e (by omega))) (ink := i) (by omega) hx hy
  rw [w4.e (k := 83) (by omega), w4.e (k := 84) (by omega), w4.e (k := 85) (by omega)] at am
  have sz := q_sizeOf hW w2 (ink := i) (a := S 88 i) (b := S 89 i) (by omega) (by rw [Int.toNat_natCast, w4.e (k := 88) (by omega)]) (by rw [Int.toNat_natCast, w4.e (k := 89) (by omega)])
  have rb := rk_b (C i hi) x y
  have n4 := (C i hi).1.2.2.2
  have ab := amtM_b J (ink := i) (x := x) (y := y) (by omega) hx hy
  have m := am_n ab n4
  refine ⟨h', S', ?_, w2, w3, w4⟩
  unfold dotV
  generalize amtM (S 83) (S 85) (S 84) p i x y = am' at *
  generalize S 88 i * S 88 i + S 89 i * S 89 i = n at *
  by_cases l : rkV S i x y < (am' * n + 127) / 255
  · rw [if_pos l]
    simp (disch := omega) only [↓reduceIte, S0, S1, J_lt, J_le, J_eq, J_ldI, J_ldI3, J_ldB, J_ldL, J_ldR, J_stI, J_stB, J_stL, J_dv, j_gne, C0, CM, CP, CR, CJ, CS, CL, and_self, and_true, true_and, and_false, false_and, or_true, true_or, or_false, false_or, not_true_eq_false, not_false_eq_true, Option.map_some, J_ltT, J_ltF, J_leT, J_leF, J_eqT, J_eqF, J_ntT, J_ntF, E_Mod_isDot hW, H.get, w2.get, w1, am, sz, J_div]
  · rw [if_neg l]
    simp (disch := omega) only [↓reduceIte, S0, S1, J_lt, J_le, J_eq, J_ldI, J_ldI3, J_ldB, J_ldL, J_ldR, J_stI, J_stB, J_stL, J_dv, j_gne, C0, CM, CP, CR, CJ, CS, CL, and_self, and_true, true_and, and_false, false_and, or_true, true_or, or_false, false_or, not_true_eq_false, not_false_eq_true, Option.map_some, J_ltT, J_ltF, J_leT, J_leF, J_eqT, J_eqF, J_ntT, J_ntF, E_Mod_isDot hW, H.get, w2.get, w1, am, sz, J_div]
theorem th_JR {S : Nat → Nat → Int} {c : Int} {p : Nat} (hp : p < 4) (J : JR S p) : JR (sup S 78 (jup (S 78) 0 c)) p := JR_of J (fun k hk => sup_ne _ _ (by omega))
theorem q_dot (hW : xFix V W) {S : Nat → Nat → Int} {h : xH} (H : HP N h S T) {p ink x y : Int} (C : ∀ i, i < 8 → SCi S i) (K : ∀ i, i < 8 → KNi S i) (hp : j32 p) (hi : j32 ink) (hx : j32 x) (hy : j32 y) (hm : ∀ q, q < 4 → S 81 q = 0 ∨ S 81 q = 1) (hJ : ∀ q, q < 4 → S 81 q = 1 → JR S q) :
    if ((0 ≤ p ∧ p < 4) ∧ (0 ≤ x ∧ x < 48) ∧ (0 ≤ y ∧ y < 64)) ∧ (0 ≤ ink ∧ ink < 8) then (if S 81 p.toNat = 1 then ∃ (h' : xH) (S' : Nat → Nat → Int), W m_Mod_dot (0, [some (.ref (N + 78)), some (.int (Int32.ofInt p)), some (.int (Int32.ofInt ink)), some (.int (Int32.ofInt x)), some (.int (Int32.ofInt y))], []) h = some (.inl (some (jI (dotV S p ink.toNat x y))), h') ∧ HP N h' S' T ∧ h'.2 = h.2 ∧ KG (sup S 78 (jup (S 78) 0 0)) S'
      else W m_Mod_dot (0, [some (.ref (N + 78)), some (.int (Int32.ofInt p)), some (.int (Int32.ofInt ink)), some (.int (Int32.ofInt x)), some (.int (Int32.ofInt y))], []) h = some (.inl (some (jI 0)), hth N h S T 2)) else W m_Mod_dot (0, [some (.ref (N + 78)), some (.int (Int32.ofInt p)), some (.int (Int32.ofInt ink)), some (.int (Int32.ofInt x)), some (.int (Int32.ofInt y))], []) h = some (.inl (some (jI 0)), hth N h S T 1) := by
  have H1 := H.th 0
  have r0 := q_has hW H1 (by rw [sup_same, jup_same]) hp hi hx hy (by simp (disch := omega) only [sup_ne]; exact hm)
  simp (disch := omega) only [sup_ne, hth_hth] at r0
  by_cases c1 : ((0 ≤ p ∧ p < 4) ∧ (0 ≤ x ∧ x < 48) ∧ (0 ≤ y ∧ y < 64)) ∧ (0 ≤ ink ∧ ink < 8)
  · rw [if_pos c1] at r0 ⊢
    by_cases c3 : S 81 p.toNat = 1
    · rw [if_pos c3] at r0 ⊢
      have J := hJ p.toNat (by omega) c3
      obtain ⟨h', S', w1, w2, w3, w4⟩ := q_isDot hW H1 (p := p.toNat) (i := ink.toNat) (by omega) (by omega) (th_JR (by omega) J) (fun i hi => th_C hi (C i hi)) (fun i hi => th_K (K i hi)) c1.1.2.1 c1.1.2.2
      rw [th_dot (by omega), show ((p.toNat : Nat) : Int) = p by omega, show ((ink.toNat : Nat) : Int) = ink by omega] at w1
      refine ⟨h', S', ?_, w2, w3, w4⟩
      have d01 : dotV S p ink.toNat x y = 0 ∨ dotV S p ink.toNat x y = 1 := by unfold dotV; split; exact Or.inr rfl; exact Or.inl rfl
      rcases d01 with d | d <;> rw [d] at w1 ⊢ <;> simp (disch := omega) only [↓reduceIte, S0, S1, J_lt, J_le, J_eq, J_ldI, J_ldI3, J_ldB, J_ldL, J_ldR, J_stI, J_stB, J_stL, J_dv, j_gne, C0, CM, CP, CR, CJ, CS, CL, and_self, and_true, true_and, and_false, false_and, or_true, true_or, or_false, false_or, not_true_eq_false, not_false_eq_true, Option.map_some, E_Mod_dot hW, H.get, H1.get, r0, w1] <;> rfl
    · rw [if_neg c3] at r0 ⊢
      simp (disch := omega) only [↓reduceIte, S0, S1, J_lt, J_le, J_eq, J_ldI, J_ldI3, J_ldB, J_ldL, J_ldR, J_stI, J_stB, J_stL, J_dv, j_gne, C0, CM, CP, CR, CJ, CS, CL, and_self, and_true, true_and, and_false, false_and, or_true, true_or, or_false, false_or, not_true_eq_false, not_false_eq_true, Option.map_some, E_Mod_dot hW, H.get, r0]
  · rw [if_neg c1] at r0 ⊢
    simp (disch := omega) only [↓reduceIte, S0, S1, J_lt, J_le, J_eq, J_ldI, J_ldI3, J_ldB, J_ldL, J_ldR, J_stI, J_stB, J_stL, J_dv, j_gne, C0, CM, CP, CR, CJ, CS, CL, and_self, and_true, true_and, and_false, false_and, or_true, true_or, or_false, false_or, not_true_eq_false, not_false_eq_true, Option.map_some, E_Mod_dot hW, H.get, r0]
theorem q_shLp (hW : xFix V W) {S : Nat → Nat → Int} {h : xH} (H : HP N h S T) {p i m : Nat} (hp : p < 4) (hi : i < 8) (J : JR S p) (n4 : 1 ≤ S 88 i * S 88 i + S 89 i * S 89 i ∧ S 88 i * S 88 i + S 89 i * S 89 i ≤ 400) (hm : S 92 i = m) (em : (m : Int) = S 88 i * S 88 i + S 89 i * S 89 i) (hX : ∀ k, k < m → (-20 ≤ S 93 (400 * i + k) ∧ S 93 (400 * i + k) ≤ 20) ∧ (-20 ≤ S 94 (400 * i + k) ∧ S 94 (400 * i + k) ≤ 20)) {x y mx my : Int} (hx : -1000 ≤ mx ∧ mx ≤ 1000) (hy : -1000 ≤ my ∧ my ≤ 1000) : ∀ (r k : Nat) (o : Int) (s9 s10 : Option Value), k + r = m →
    W m_Mod_share (55, [some (.ref (N + 78)), some (.int (Int32.ofInt ((p : Int)))), some (.int (Int32.ofInt ((i : Int)))), some (.int (Int32.ofInt x)), some (.int (Int32.ofInt y)), some (.int (Int32.ofInt mx)), some (.int (Int32.ofInt my)), some (.int (Int32.ofInt o)), some (.int (Int32.ofInt ((k : Int)))), s9, s10], []) h = some (.inl (some (jI (shN (fun k => S 93 (400 * i + k)) (fun k => S 94 (400 * i + k)) (fun u v => amtM (S 83) (S 85) (S 84) p i u v) (S 88 i * S 88 i + S 89 i * S 89 i) mx my r k o))), h) := by
  have sz := q_sizeOf hW H (ink := i) (a := S 88 i) (b := S 89 i) (by omega) (by rw [Int.toNat_natCast]) (by rw [Int.toNat_natCast])
  intro r
  induction r with
  | zero =>
    intro k o s9 s10 hk
    rw [L_Mod_share_55 hW]
    simp only [shN]
    simp (disch := omega) only [↓reduceIte, S0, S1, J_lt, J_le, J_eq, J_ldI, J_ldI3, J_ldB, J_ldL, J_ldR, J_stI, J_stB, J_stL, J_dv, j_gne, C0, CM, CP, CR, CJ, CS, CL, and_self, and_true, true_and, and_false, false_and, or_true, true_or, or_false, false_or, not_true_eq_false, not_false_eq_true, Option.map_some, J_ltT, J_ltF, J_leT, J_leF, J_eqT, J_eqF, J_ntT, J_ntF, E_Mod_share hW, H.get, Int.toNat_natCast, hm]
  | succ r ih =>
    intro k o s9 s10 hk
    have e : (400 * (i : Int) + (k : Int)).toNat = 400 * i + k := by omega
    have bd := hX k (by omega)
    have ic := q_isCell (h := h) hW (p := p) (x := S 93 (400 * i + k) + mx) (y := S 94 (400 * i + k) + my) (by omega) (by omega) (by omega) (by omega) (by omega) (by omega)
    rw [L_Mod_share_55 hW]
    simp only [shN]
    by_cases c : (0 ≤ S 93 (400 * i + k) + mx ∧ S 93 (400 * i + k) + mx < 48) ∧ (0 ≤ S 94 (400 * i + k) + my ∧ S 94 (400 * i + k) + my < 64)
    · rw [if_pos (by omega)] at ic
      rw [if_pos c]
      have a := q_amt hW H hp J (ink := i) (by omega) c.1 c.2
      have ab := amtM_b J (ink := i) (by omega) c.1 c.2
      have m1 := am_n ab n4
      by_cases l : (k : Int) < (amtM (S 83) (S 85) (S 84) p i (S 93 (400 * i + k) + mx) (S 94 (400 * i + k) + my) * (S 88 i * S 88 i + S 89 i * S 89 i) + 127) / 255
      · rw [if_pos l]
        have ih1 := ih (k + 1) (o + 1) (some (.int (Int32.ofInt (S 93 (400 * i + k) + mx)))) (some (.int (Int32.ofInt (S 94 (400 * i + k) + my)))) (by omega)
        rw [← ih1, show ((k + 1 : Nat) : Int) = (k : Int) + 1 from rfl]
        simp (disch := omega) only [↓reduceIte, S0, S1, J_lt, J_le, J_eq, J_ldI, J_ldI3, J_ldB, J_ldL, J_ldR, J_stI, J_stB, J_stL, J_dv, j_gne, C0, CM, CP, CR, CJ, CS, CL, and_self, and_true, true_and, and_false, false_and, or_true, true_or, or_false, false_or, not_true_eq_false, not_false_eq_true, Option.map_some, J_ltT, J_ltF, J_leT, J_leF, J_eqT, J_eqF, J_ntT, J_ntF, E_Mod_share hW, H.get, Int.toNat_natCast, hm, e, ic, a, sz, J_div]
      · rw [if_neg l]
        have ih1 := ih (k + 1) o (some (.int (Int32.ofInt (S 93 (400 * i + k) + mx)))) (some (.int (Int32.ofInt (S 94 (400 * i + k) + my)))) (by omega)
        rw [← ih1, show ((k + 1 : Nat) : Int) = (k : Int) + 1 from rfl]
        simp (disch := omega) only [↓reduceIte, S0, S1, J_lt, J_le, J_eq, J_ldI, J_ldI3, J_ldB, J_ldL, J_ldR, J_stI, J_stB, J_stL, J_dv, j_gne, C0, CM, CP, CR, CJ, CS, CL, and_self, and_true, true_and, and_false, false_and, or_true, true_or, or_false, false_or, not_true_eq_false, not_false_eq_true, Option.map_some, J_ltT, J_ltF, J_leT, J_leF, J_eqT, J_eqF, J_ntT, J_ntF, E_Mod_share hW, H.get, Int.toNat_natCast, hm, e, ic, a, sz, J_div, Int.add_zero]
    · rw [if_neg (by omega)] at ic
      rw [if_neg c]
      simp (disch := omega) only [↓reduceIte, S0, S1, J_lt, J_le, J_eq, J_ldI, J_ldI3, J_ldB, J_ldL, J_ldR, J_stI, J_stB, J_stL, J_dv, j_gne, C0, CM, CP, CR, CJ, CS, CL, and_self, and_true, true_and, and_false, false_and, or_true, true_or, or_false, false_or, not_true_eq_false, not_false_eq_true, Option.map_some, J_ltT, J_ltF, J_leT, J_leF, J_eqT, J_eqF, J_ntT, J_ntF, E_Mod_share hW, H.get, Int.toNat_natCast, hm, e, ic]
theorem q_share (hW : xFix V W) {S : Nat → Nat → Int} {h : xH} (H : HP N h S T) {p ink x y : Int} (C : ∀ i, i < 8 → SCi S i) (K : ∀ i, i < 8 → KNi S i) (hp : j32 p) (hi : j32 ink) (hx : j32 x) (hy : j32 y) (hm : ∀ q, q < 4 → S 81 q = 0 ∨ S 81 q = 1) (hJ : ∀ q, q < 4 → S 81 q = 1 → JR S q) :
    if ((0 ≤ p ∧ p < 4) ∧ (0 ≤ x ∧ x < 48) ∧ (0 ≤ y ∧ y < 64)) ∧ (0 ≤ ink ∧ ink < 8) then (if S 81 p.toNat = 1 then ∃ (h' : xH) (S' : Nat → Nat → Int), W m_Mod_share (0, [some (.ref (N + 78)), some (.int (Int32.ofInt p)), some (.int (Int32.ofInt ink)), some (.int (Int32.ofInt x)), some (.int (Int32.ofInt y)), none, none, none, none, none, none], []) h = some (.inl (some (jI (shV S p ink.toNat x y))), h') ∧ HP N h' S' T ∧ h'.2 = h.2 ∧ KG (sup S 78 (jup (S 78) 0 0)) S'
      else W m_Mod_share (0, [some (.ref (N + 78)), some (.int (Int32.ofInt p)), some (.int (Int32.ofInt ink)), some (.int (Int32.ofInt x)), some (.int (Int32.ofInt y)), none, none, none, none, none, none], []) h = some (.inl (some (jI 0)), hth N h S T 2)) else W m_Mod_share (0, [some (.ref (N + 78)), some (.int (Int32.ofInt p)), some (.int (Int32.ofInt ink)), some (.int (Int32.ofInt x)), some (.int (Int32.ofInt y)), none, none, none, none, none, none], []) h = some (.inl (some (jI 0)), hth N h S T 1) := by
  have H1 := H.th 0
  have r0 := q_has hW H1 (by rw [sup_same, jup_same]) hp hi hx hy (by simp (disch := omega) only [sup_ne]; exact hm)
  simp (disch := omega) only [sup_ne, hth_hth] at r0
  by_cases c1 : ((0 ≤ p ∧ p < 4) ∧ (0 ≤ x ∧ x < 48) ∧ (0 ≤ y ∧ y < 64)) ∧ (0 ≤ ink ∧ ink < 8)
  · rw [if_pos c1] at r0 ⊢
    by_cases c3 : S 81 p.toNat = 1
    · rw [if_pos c3] at r0 ⊢
      have J := hJ p.toNat (by omega) c3
      have Ci := C ink.toNat (by omega)
      obtain ⟨⟨g1, g2, g3, g4⟩, g5, g6⟩ := Ci
      have s88 : sup S 78 (jup (S 78) 0 0) 88 = S 88 := sup_ne _ _ (by omega)
      have s89 : sup S 78 (jup (S 78) 0 0) 89 = S 89 := sup_ne _ _ (by omega)
      have s90 : sup S 78 (jup (S 78) 0 0) 90 = S 90 := sup_ne _ _ (by omega)
      have K0 := th_K (c := 0) (K ink.toNat (by omega))
      unfold KNi at K0
      rw [s88, s89, s90] at K0
      obtain ⟨h1, Sa, w1, w2, w3, w4, w5⟩ := q_know hW H1 c1.2 (by rw [s88]) (by rw [s89]) (by rw [s90]) g1 g2 g3 g4 g6 K0
      obtain ⟨u, v, h2, f1, f2, f3, f4, f5⟩ := q_findHeart hW w2 c1.2 (by rw [w4.e (by omega), s88]) (by rw [w4.e (by omega), s89]) (by rw [w4.e (by omega), s90]) g1 g2 g3 g4 (x := x) (y := y) (by omega) (by omega)
      have kg : KG (sup S 78 (jup (S 78) 0 0)) (hxy Sa u v) := KG_of (i := ink.toNat) (by omega) (fun i hi => th_C hi (C i hi)) (KF_trans w4 KF_hxy) (by
        rw [s88, s89, s90]
        unfold KD KN at *
        rw [hxy_ne _ _ _ (by omega), hxy_ne _ _ _ (by omega), hxy_ne _ _ _ (by omega), hxy_ne _ _ _ (by omega)]
        exact w5)
      have ek : ∀ k, (k ≠ 78 ∧ k ≠ 91 ∧ k ≠ 92 ∧ k ≠ 93 ∧ k ≠ 94) → hxy Sa u v k = S k := fun k hk => by rw [kg.e hk, sup_ne _ _ hk.1]
      obtain ⟨k91, m, ⟨k92, L⟩, al⟩ := w5
      obtain ⟨em, eX⟩ := HL_eq g4.2 g6 L al
      have rb := (g6.2.2.2.2 x y)
      have gh := (g6.2.2.1 (rkV S ink.toNat x y).toNat (by have := rb.1; unfold rkV; omega)).2
      have un := hrt_uniq g4.2 f4 gh (sc_trans (sc_symm f5) rb.2)
      have uv := hrt_far g4.2 f4
      have lp := q_shLp hW f2 (p := p.toNat) (i := ink.toNat) (m := m) (by omega) (by omega) (JR_of J (fun k hk => ek k (by omega))) (by rw [ek 88 (by omega), ek 89 (by omega)]; exact g4) (by rw [hxy_ne _ _ _ (by omega)]; exact k92) (by rw [ek 88 (by omega), ek 89 (by omega)]; exact em) (fun k hk => by
        rw [hxy_ne _ _ _ (by omega), hxy_ne _ _ _ (by omega)]
        have := hrt_far g4.2 (L.1 k hk)
        exact ⟨this.1, this.2.1⟩) (x := x) (y := y) (mx := x - u) (my := y - v) (by omega) (by omega) m 0 0 none none (by omega)
      rw [ek 88 (by omega), ek 89 (by omega), ek 83 (by omega), ek 84 (by omega), ek 85 (by omega), hxy_ne _ _ _ (by omega), hxy_ne _ _ _ (by omega)] at lp
      rw [shN_cg m 0 0 (fun j _ hj => eX j (by omega))] at lp
      rw [show ((0 : Nat) : Int) = 0 from rfl, show ((p.toNat : Nat) : Int) = p by omega, show ((ink.toNat : Nat) : Int) = ink by omega] at lp
      have ev : shV S p ink.toNat x y = shN (fun k => px (S (37 + 3 * ink.toNat) k)) (fun k => py (S (37 + 3 * ink.toNat) k)) (fun u v => amtM (S 83) (S 85) (S 84) p ink u v) (S 88 ink.toNat * S 88 ink.toNat + S 89 ink.toNat * S 89 ink.toNat) (x - u) (y - v) m 0 0 := by
        unfold shV
        rw [un.1, un.2, show (S 88 ink.toNat * S 88 ink.toNat + S 89 ink.toNat * S 89 ink.toNat).toNat = m by omega, show ((ink.toNat : Nat) : Int) = ink by omega]
      refine ⟨h2, hxy Sa u v, ?_, f2, f3.trans (w3.trans rfl), kg⟩
      rw [ev, ← lp]
      simp (disch := omega) only [↓reduceIte, S0, S1, J_lt, J_le, J_eq, J_ldI, J_ldI3, J_ldB, J_ldL, J_ldR, J_stI, J_stB, J_stL, J_dv, j_gne, C0, CM, CP, CR, CJ, CS, CL, and_self, and_true, true_and, and_false, false_and, or_true, true_or, or_false, false_or, not_true_eq_false, not_false_eq_true, Option.map_some, E_Mod_share hW, H.get, H1.get, w2.get, f2.get, r0, w1, f1, hxy_x, hxy_y]
    · rw [if_neg c3] at r0 ⊢
      simp (disch := omega) only [↓reduceIte, S0, S1, J_lt, J_le, J_eq, J_ldI, J_ldI3, J_ldB, J_ldL, J_ldR, J_stI, J_stB, J_stL, J_dv, j_gne, C0, CM, CP, CR, CJ, CS, CL, and_self, and_true, true_and, and_false, false_and, or_true, true_or, or_false, false_or, not_true_eq_false, not_false_eq_true, Option.map_some, E_Mod_share hW, H.get, r0]
  · rw [if_neg c1] at r0 ⊢
    simp (disch := omega) only [↓reduceIte, S0, S1, J_lt, J_le, J_eq, J_ldI, J_ldI3, J_ldB, J_ldL, J_ldR, J_stI, J_stB, J_stL, J_dv, j_gne, C0, CM, CP, CR, CJ, CS, CL, and_self, and_true, true_and, and_false, false_and, or_true, true_or, or_false, false_or, not_true_eq_false, not_false_eq_true, Option.map_some, E_Mod_share hW, H.get, r0]
theorem q_prLp (hW : xFix V W) {S : Nat → Nat → Int} {p : Nat} (hp : p < 4) (J : JR S p) (C : ∀ i, i < 8 → SCi S i) (K : ∀ i, i < 8 → KNi S i) {x y : Int} (hx : 0 ≤ x ∧ x < 48) (hy : 0 ≤ y ∧ y < 64) : ∀ (r k : Nat) (o : Int) (h : xH) (S1' : Nat → Nat → Int), k + r = 8 → HP N h S1' T → KG S S1' →
    ∃ (h' : xH) (S' : Nat → Nat → Int), W m_Mod_proof (24, [some (.ref (N + 78)), some (.int (Int32.ofInt ((p : Int)))), some (.int (Int32.ofInt x)), some (.int (Int32.ofInt y)), some (.int (Int32.ofInt o)), some (.int (Int32.ofInt ((k : Int))))], []) h = some (.inl (some (jI (prN (fun i => dotV S p i x y) r k o))), h') ∧ HP N h' S' T ∧ h'.2 = h.2 ∧ KG S S' := by
  intro r
  induction r with
  | zero =>
    intro k o h S1' hk H G
    refine ⟨h, S1', ?_, H, rfl, G⟩
    rw [L_Mod_proof_24 hW]
    simp only [prN]
    simp (disch := omega) only [↓reduceIte, S0, S1, J_lt, J_le, J_eq, J_ldI, J_ldI3, J_ldB, J_ldL, J_ldR, J_stI, J_stB, J_stL, J_dv, j_gne, C0, CM, CP, CR, CJ, CS, CL, and_self, and_true, true_and, and_false, false_and, or_true, true_or, or_false, false_or, not_true_eq_false, not_false_eq_true, Option.map_some, J_ltT, J_ltF, J_leT, J_leF, J_eqT, J_eqF, J_ntT, J_ntF, E_Mod_proof hW]
  | succ r ih =>
    intro k o h S1' hk H G
    obtain ⟨h1, Sb, w1, w2, w3, w4⟩ := q_isDot hW H hp (i := k) (by omega) (JR_of J (fun q hq => G.e (by omega))) (fun i hi => SCi_KG hi (C i hi) G) (fun i hi => G.2.2 i hi (K i hi)) hx hy
    rw [dotV_KG (by omega) G] at w1
    have d01 : dotV S p k x y = 0 ∨ dotV S p k x y = 1 := by unfold dotV; split; exact Or.inr rfl; exact Or.inl rfl
    have sk := j_shk ⟨k, by omega⟩
    simp only [] at sk
    rw [L_Mod_proof_24 hW]
    simp only [prN]
    rcases d01 with d | d
    · rw [if_pos d]
      rw [d] at w1
      obtain ⟨h', S', z1, z2, z3, z4⟩ := ih (k + 1) o h1 Sb (by omega) w2 (KG_trans G w4)
      refine ⟨h', S', ?_, z2, z3.trans w3, z4⟩
      rw [← z1, show ((k + 1 : Nat) : Int) = (k : Int) + 1 from rfl]
      simp (disch := omega) only [↓reduceIte, S0, S1, J_lt, J_le, J_eq, J_ldI, J_ldI3, J_ldB, J_ldL, J_ldR, J_stI, J_stB, J_stL, J_dv, j_gne, C0, CM, CP, CR, CJ, CS, CL, and_self, and_true, true_and, and_false, false_and, or_true, true_or, or_false, false_or, not_true_eq_false, not_false_eq_true, Option.map_some, J_ltT, J_ltF, J_leT, J_leF, J_eqT, J_eqF, J_ntT, J_ntF, E_Mod_proof hW, H.get, w2.get, w1, Int.add_zero]
    · rw [if_neg (show ¬ dotV S p k x y = 0 by omega)]
      rw [d] at w1
      obtain ⟨h', S', z1, z2, z3, z4⟩ := ih (k + 1) (o + 2 ^ k) h1 Sb (by omega) w2 (KG_trans G w4)
      refine ⟨h', S', ?_, z2, z3.trans w3, z4⟩
      rw [← z1, show ((k + 1 : Nat) : Int) = (k : Int) + 1 from rfl]
      simp (disch := omega) only [↓reduceIte, S0, S1, J_lt, J_le, J_eq, J_ldI, J_ldI3, J_ldB, J_ldL, J_ldR, J_stI, J_stB, J_stL, J_dv, j_gne, C0, CM, CP, CR, CJ, CS, CL, and_self, and_true, true_and, and_false, false_and, or_true, true_or, or_false, false_or, not_true_eq_false, not_false_eq_true, Option.map_some, J_ltT, J_ltF, J_leT, J_leF, J_eqT, J_eqF, J_ntT, J_ntF, E_Mod_proof hW, H.get, w2.get, w1, sk]
theorem q_proof (hW : xFix V W) {S : Nat → Nat → Int} {h : xH} (H : HP N h S T) {p x y : Int} (C : ∀ i, i < 8 → SCi S i) (K : ∀ i, i < 8 → KNi S i) (hp : j32 p) (hx : j32 x) (hy : j32 y) (hm : ∀ q, q < 4 → S 81 q = 0 ∨ S 81 q = 1) (hJ : ∀ q, q < 4 → S 81 q = 1 → JR S q) :
    if (0 ≤ p ∧ p < 4) ∧ (0 ≤ x ∧ x < 48) ∧ (0 ≤ y ∧ y < 64) then (if S 81 p.toNat = 1 then ∃ (h' : xH) (S' : Nat → Nat → Int), W m_Mod_proof (0, [some (.ref (N + 78)), some (.int (Int32.ofInt p)), some (.int (Int32.ofInt x)), some (.int (Int32.ofInt y)), none, none], []) h = some (.inl (some (jI (prV S p x y))), h') ∧ HP N h' S' T ∧ h'.2 = h.2 ∧ KG (sup S 78 (jup (S 78) 0 0)) S'
      else W m_Mod_proof (0, [some (.ref (N + 78)), some (.int (Int32.ofInt p)), some (.int (Int32.ofInt x)), some (.int (Int32.ofInt y)), none, none], []) h = some (.inl (some (jI 0)), hth N h S T 2)) else W m_Mod_proof (0, [some (.ref (N + 78)), some (.int (Int32.ofInt p)), some (.int (Int32.ofInt x)), some (.int (Int32.ofInt y)), none, none], []) h = some (.inl (some (jI 0)), hth N h S T 1) := by
  have H1 := H.th 0
  have r0 := q_has hW H1 (by rw [sup_same, jup_same]) (p := p) (ink := 0) (x := x) (y := y) hp ⟨by omega, by omega⟩ hx hy (by simp (disch := omega) only [sup_ne]; exact hm)
  simp (disch := omega) only [sup_ne, hth_hth] at r0
  by_cases c1 : (0 ≤ p ∧ p < 4) ∧ (0 ≤ x ∧ x < 48) ∧ (0 ≤ y ∧ y < 64)
  · rw [if_pos ⟨c1, by omega⟩] at r0
    rw [if_pos c1]
    by_cases c3 : S 81 p.toNat = 1
    · rw [if_pos c3] at r0 ⊢
      have J := hJ p.toNat (by omega) c3
      obtain ⟨h', S', w1, w2, w3, w4⟩ := q_prLp hW (p := p.toNat) (by omega) (th_JR (c := 0) (by omega) J) (fun i hi => th_C hi (C i hi)) (fun i hi => th_K (K i hi)) c1.2.1 c1.2.2 8 0 0 _ _ (by omega) H1 KG_refl
      refine ⟨h', S', ?_, w2, w3, w4⟩
      have e : prN (fun i => dotV (sup S 78 (jup (S 78) 0 0)) (p.toNat : Nat) i x y) 8 0 0 = prV S p x y := by
        unfold prV
        rw [show ((p.toNat : Nat) : Int) = p by omega]
        exact prN_cg 8 0 0 (fun i _ hi => th_dot (by omega) p x y)
      rw [e, show ((0 : Nat) : Int) = 0 from rfl, show ((p.toNat : Nat) : Int) = p by omega] at w1
      rw [← w1]
      simp (disch := omega) only [↓reduceIte, S0, S1, J_lt, J_le, J_eq, J_ldI, J_ldI3, J_ldB, J_ldL, J_ldR, J_stI, J_stB, J_stL, J_dv, j_gne, C0, CM, CP, CR, CJ, CS, CL, and_self, and_true, true_and, and_false, false_and, or_true, true_or, or_false, false_or, not_true_eq_false, not_false_eq_true, Option.map_some, E_Mod_proof hW, H.get, r0]
    · rw [if_neg c3] at r0 ⊢
      simp (disch := omega) only [↓reduceIte, S0, S1, J_lt, J_le, J_eq, J_ldI, J_ldI3, J_ldB, J_ldL, J_ldR, J_stI, J_stB, J_stL, J_dv, j_gne, C0, CM, CP, CR, CJ, CS, CL, and_self, and_true, true_and, and_false, false_and, or_true, true_or, or_false, false_or, not_true_eq_false, not_false_eq_true, Option.map_some, E_Mod_proof hW, H.get, r0]
  · rw [if_neg (fun q => c1 q.1)] at r0
    rw [if_neg c1]
    simp (disch := omega) only [↓reduceIte, S0, S1, J_lt, J_le, J_eq, J_ldI, J_ldI3, J_ldB, J_ldL, J_ldR, J_stI, J_stB, J_stL, J_dv, j_gne, C0, CM, CP, CR, CJ, CS, CL, and_self, and_true, true_and, and_false, false_and, or_true, true_or, or_false, false_or, not_true_eq_false, not_false_eq_true, Option.map_some, E_Mod_proof hW, H.get, r0]
end QJS
