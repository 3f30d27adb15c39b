theorem wtN_rng {A B : Nat → Int} {b : Int} (hb : 0 ≤ b ∧ b + 8 ≤ 512) (hA : ∀ j, j < 512 → 0 ≤ A j ∧ A j ≤ 255) (hB : ∀ j, j < 8 → 0 ≤ B j ∧ B j ≤ 100) : ∀ (n : Nat) (k m : Int), 0 ≤ k → k + n = 8 → 0 ≤ m → 0 ≤ wtN A B b n k m ∧ wtN A B b n k m ≤ m + n * 25500
  | 0, k, m, h0, h1, hm => ⟨hm, by show m ≤ _; omega⟩
  | n + 1, k, m, h0, h1, hm => by
    obtain ⟨a1, a2⟩ := hA (b + k).toNat (by omega)
    obtain ⟨b1, b2⟩ := hB k.toNat (by omega)
    have p0 : 0 ≤ A (b + k).toNat * B k.toNat := Int.mul_nonneg a1 b1
    have p1 : A (b + k).toNat * B k.toNat ≤ 255 * 100 := Int.mul_le_mul a2 b2 b1 (by omega)
    obtain ⟨r1, r2⟩ := wtN_rng hb hA hB n (k + 1) (m + A (b + k).toNat * B k.toNat) (by omega) (by omega) (by omega)
    exact ⟨r1, by show wtN A B b n (k + 1) (m + A (b + k).toNat * B k.toNat) ≤ _; omega⟩
section SP3
variable {V : Nat → Value} {W : xWt} {N : Nat} {S : Nat → Nat → Int}
theorem p_spL1 (hW : xFix V W) {K : Nat → Nat} {M : Nat → Int} (hK : ∀ c, c < 64 → S 25 c = (K c : Nat) ∧ K c < 256) (hM : ∀ c, c < 64 → S 26 c = M c ∧ 0 ≤ M c ∧ M c < 1000000) {o : Nat} {w : Int} : ∀ (n c : Nat) (h : xH) (T : Nat → Nat → Int64), HP N h S T → c + n = 64 →
    ∃ h' T', W m_Spr_spread (7, [some (.ref (N + 24)), some (.ref o), some (.int (Int32.ofInt w)), some (.int (Int32.ofInt ((c : Int)))), none], []) h = W m_Spr_spread (30, [some (.ref (N + 24)), some (.ref o), some (.int (Int32.ofInt w)), some (.int (Int32.ofInt 64)), none], []) h' ∧ HP N h' S T' ∧ h'.2 = h.2 ∧ (∀ q, c ≤ q → q < 64 → ∀ i, (uN (T' 27 q)).testBit i = true ↔ (i < 64 ∧ shyP K q i ∧ litP M i q)) ∧ (∀ q, q < c → T' 27 q = T 27 q) := by
  intro n
  induction n with
  | zero =>
    intro c h T H hc
    have e : c = 64 := by omega
    subst e
    refine ⟨h, T, ?_, H, rfl, fun q a b => by omega, fun _ _ => rfl⟩
    rw [L_Spr_spread_7 hW]
    simp (disch := omega) only [↓reduceIte, S0, S1, J_lt, J_le, J_eq, J_ldI, J_ldI3, J_ldB, J_ldL, J_ldR, J_stI, J_stB, J_stL, J_dv, j_gne, C0, CM, CP, CR, CJ, CS, CL, and_self, and_true, true_and, and_false, false_and, or_true, true_or, or_false, false_or, not_true_eq_false, not_false_eq_true, Option.map_some, J_ltT, J_ltF, J_leT, J_leF, J_eqT, J_eqF, J_ntT, J_ntF]
    rfl
  | succ n ih =>
    intro c h T H hc
    obtain ⟨x, x1, x2⟩ := p_shyLoop hW H hK hM (c := c) (by omega) 64 0 0 (by omega)
    rw [show ((0 : Nat) : Int) = 0 from rfl] at x1
    have H1 := H.putL (k := 27) (by omega) (jupL (T 27) c x) (e := jL 64 (jupL (T 27) c x)) rfl
    obtain ⟨h', T', r1, r2, r3, r4, r5⟩ := ih (c + 1) _ _ H1 (by omega)
    rw [show (((c + 1 : Nat) : Int)) = (c : Int) + 1 by omega] at r1
    rw [supL_same] at r5
    refine ⟨h', T', ?_, r2, r3.trans rfl, fun q a b i => ?_, fun q a => by rw [r5 q (by omega), jupL_ne _ _ (by omega)]⟩
    · rw [L_Spr_spread_7 hW, ← r1]
      simp (disch := omega) only [↓reduceIte, S0, S1, J_lt, J_le, J_eq, J_ldI, J_ldI3, J_ldB, J_ldL, J_ldR, J_stI, J_stB, J_stL, J_dv, j_gne, C0, CM, CP, CR, CJ, CS, CL, and_self, and_true, true_and, and_false, false_and, or_true, true_or, or_false, false_or, not_true_eq_false, not_false_eq_true, Option.map_some, J_ltT, J_ltF, J_leT, J_leF, J_eqT, J_eqF, J_ntT, J_ntF, E_Spr_spread hW, H.get, E_Spr_lighterShyOf hW, x1, Int.toNat_natCast]
    · by_cases e : q = c
      · subst e
        rw [r5 q (by omega), jupL_same, x2 i, uN_0]
        constructor
        · rintro (z | z)
          · cases z
          · exact z.2
        · intro z
          exact Or.inr ⟨by omega, z⟩
      · exact r4 q (by omega) b i
theorem p_spL2 (hW : xFix V W) {p : Nat} (hp : p < 4) {C : Nat → Int} (hC : ∀ j, j < 3072 → 0 ≤ C j ∧ C j < 64) (hS : S (9 + 4 * p) = C) {w : Int} : ∀ (n k : Nat) (h : xH) (T : Nat → Nat → Int64), HP N h S T → k + n = 3072 →
    ∃ h' T', W m_Spr_spread (32, [some (.ref (N + 24)), some (.ref (N + (8 + 4 * p))), some (.int (Int32.ofInt w)), some (.int (Int32.ofInt ((k : Int)))), none], []) h = W m_Spr_spread (58, [some (.ref (N + 24)), some (.ref (N + (8 + 4 * p))), some (.int (Int32.ofInt w)), some (.int (Int32.ofInt 3072)), none], []) h' ∧ HP N h' S T' ∧ h'.2 = h.2 ∧ (∀ j, j ≠ 28 → T' j = T j) ∧ (∀ q, k ≤ q → q < 3072 → ∀ i, (uN (T' 28 q)).testBit i = true ↔ i = (C q).toNat) ∧ (∀ q, q < k → T' 28 q = T 28 q) := by
  intro n
  induction n with
  | zero =>
    intro k h T H hk
    have e : k = 3072 := by omega
    subst e
    refine ⟨h, T, ?_, H, rfl, fun _ _ => rfl, fun q a b => by omega, fun _ _ => rfl⟩
    rw [L_Spr_spread_32 hW]
    simp (disch := omega) only [↓reduceIte, S0, S1, J_lt, J_le, J_eq, J_ldI, J_ldI3, J_ldB, J_ldL, J_ldR, J_stI, J_stB, J_stL, J_dv, j_gne, C0, CM, CP, CR, CJ, CS, CL, and_self, and_true, true_and, and_false, false_and, or_true, true_or, or_false, false_or, not_true_eq_false, not_false_eq_true, Option.map_some, J_ltT, J_ltF, J_leT, J_leF, J_eqT, J_eqF, J_ntT, J_ntF]
    rfl
  | succ n ih =>
    intro k h T H hk
    obtain ⟨c0, c1⟩ := hC k (by omega)
    have hcol : W m_Job_colourAt (0, [some (.ref (N + (8 + 4 * p))), some (.int (Int32.ofInt ((k : Int))))], []) h = some (.inl (some (jI (C k))), h) := by
      simp (disch := omega) only [↓reduceIte, S0, S1, J_lt, J_le, J_eq, J_ldI, J_ldI3, J_ldB, J_ldL, J_ldR, J_stI, J_stB, J_stL, J_dv, j_gne, C0, CM, CP, CR, CJ, CS, CL, and_self, and_true, true_and, and_false, false_and, or_true, true_or, or_false, false_or, not_true_eq_false, not_false_eq_true, Option.map_some, J_ltT, J_ltF, J_leT, J_leF, J_eqT, J_eqF, J_ntT, J_ntF, E_Job_colourAt hW, H.get, Int.toNat_natCast, hS]
    have H1 := H.putL (k := 28) (by omega) (jupL (T 28) k ((1 : Int64) <<< (Int32.toInt64 (Int32.ofInt (C k)) &&& 63))) (e := jL 3072 (jupL (T 28) k ((1 : Int64) <<< (Int32.toInt64 (Int32.ofInt (C k)) &&& 63)))) rfl
    obtain ⟨h', T', r1, r2, r3, r4, r5, r6⟩ := ih (k + 1) _ _ H1 (by omega)
    rw [show (((k + 1 : Nat) : Int)) = (k : Int) + 1 by omega] at r1
    rw [supL_same] at r6
    refine ⟨h', T', ?_, r2, r3.trans rfl, fun j hj => by rw [r4 j hj, supL_ne _ _ hj], fun q a b i => ?_, fun q a => by rw [r6 q (by omega), jupL_ne _ _ (by omega)]⟩
    · rw [L_Spr_spread_32 hW, ← r1]
      simp (disch := omega) only [↓reduceIte, S0, S1, J_lt, J_le, J_eq, J_ldI, J_ldI3, J_ldB, J_ldL, J_ldR, J_stI, J_stB, J_stL, J_dv, j_gne, C0, CM, CP, CR, CJ, CS, CL, and_self, and_true, true_and, and_false, false_and, or_true, true_or, or_false, false_or, not_true_eq_false, not_false_eq_true, Option.map_some, J_ltT, J_ltF, J_leT, J_leF, J_eqT, J_eqF, J_ntT, J_ntF, E_Spr_spread hW, H.get, hcol, Int.toNat_natCast]
    · by_cases e : q = k
      · subst e
        rw [r6 q (by omega), jupL_same, uN_bit c0 c1, Nat.testBit_two_pow, decide_eq_true_eq]
        exact eq_comm
      · exact r5 q (by omega) b i
end SP3
section SP4
variable {V : Nat → Value} {W : xWt} {N : Nat} {T : Nat → Nat → Int64}
/-- which colours spread under the cell q -/
def QF (A B C : Nat → Int) (q i : Nat) : Prop := i < 64 ∧ shyP (fun c => inkN A (c * 8) 8 0 0) (C q).toNat i ∧ litP (fun c => wtN A B (c * 8) 8 0 0) i (C q).toNat
theorem p_spread (hW : xFix V W) {p : Nat} (hp : p < 4) {A B C : Nat → Int} {a : Nat} (haN : a < N) (hv : V 0 = .ref a) (hA : ∀ j, j < 512 → 0 ≤ A j ∧ A j ≤ 255) (hB : ∀ j, j < 8 → 0 ≤ B j ∧ B j ≤ 100) (hC : ∀ j, j < 3072 → 0 ≤ C j ∧ C j < 64) {w : Nat} (hw : w ≤ 3) {h : xH} {S : Nat → Nat → Int} (H : HP N h S T) (hb : h.1 a = some (jA 3 8 B)) (hSA : S (11 + 4 * p) = A) (hSC : S (9 + 4 * p) = C) (hL : ∀ q, q < 3072 → -1 ≤ S (10 + 4 * p) q ∧ S (10 + 4 * p) q < 64) :
    ∃ h' S' T', W m_Spr_spread (0, [some (.ref (N + 24)), some (.ref (N + (8 + 4 * p))), some (.int (Int32.ofInt ((w : Int)))), none, none], []) h = some (.inl (some (jI (cq (S' (10 + 4 * p)) 3072 0 - cq (S (10 + 4 * p)) 3072 0))), h') ∧ HP N h' S' T' ∧ h'.2 = h.2 ∧ (∀ j, j ≠ 25 → j ≠ 26 → j ≠ 8 + 4 * p → j ≠ 10 + 4 * p → S' j = S j) ∧ S' (8 + 4 * p) = jup (S (8 + 4 * p)) 4 1 ∧ (∀ q, q < 3072 → -1 ≤ S' (10 + 4 * p) q ∧ S' (10 + 4 * p) q < 64) ∧ RR C (QF A B C) w 0 (S (10 + 4 * p)) (S' (10 + 4 * p)) := by
  obtain ⟨h1, Sa, a1, a2, a3, a4, a5, a6, a7⟩ := p_weigh hW hp haN hv hA 64 0 h S H hb hSA (by omega) (by omega)
  have hK : ∀ c, c < 64 → Sa 25 c = ((fun c : Nat => inkN A (c * 8) 8 0 0) c : Nat) ∧ (fun c : Nat => inkN A (c * 8) 8 0 0) c < 256 := fun c hc => ⟨(a6 c (by omega) hc).1, inkN_lt A _ 8 0 0 (by omega) (by omega) (by omega)⟩
  have hM : ∀ c, c < 64 → Sa 26 c = (fun c : Nat => wtN A B (c * 8) 8 0 0) c ∧ 0 ≤ (fun c : Nat => wtN A B (c * 8) 8 0 0) c ∧ (fun c : Nat => wtN A B (c * 8) 8 0 0) c < 1000000 := fun c hc => by
    obtain ⟨y1, y2⟩ := wtN_rng (A := A) (B := B) (b := (c : Int) * 8) (by omega) hA hB 8 0 0 (by omega) (by omega) (by omega)
    exact ⟨(a6 c (by omega) hc).2, y1, by show wtN A B (c * 8) 8 0 0 < 1000000; omega⟩
  obtain ⟨h2, Tb, b1, b2, b3, b4, b5⟩ := p_spL1 hW hK hM (o := N + (8 + 4 * p)) (w := w) 64 0 h1 T a2 (by omega)
  obtain ⟨h3, Tc, c1, c2, c3, c4, c5, c6⟩ := p_spL2 hW hp hC (by rw [a5 _ (by omega) (by omega)]; exact hSC) (w := w) 3072 0 h2 Tb b2 (by omega)
  obtain ⟨h4, Sd, Td, d1, d2, d3, d4, d5, d6⟩ := p_spreadLoop hW hp hC (w := w) (Q := QF A B C) (by omega) w 0 h3 Sa Tc 0 c2 (by rw [a5 _ (by omega) (by omega)]; exact hSC) (by rw [a5 _ (by omega) (by omega)]; exact hL) (fun q hq i => c5 q (by omega) hq i) (fun q hq i => by
    rw [c4 27 (by decide)]
    obtain ⟨y0, y1⟩ := hC q hq
    exact b4 (C q).toNat (by omega) (by omega) i) (by omega)
  rw [a5 (10 + 4 * p) (by omega) (by omega)] at d1 d6
  have H5 := d2.put (k := 8 + 4 * p) (by omega) (jup (Sd (8 + 4 * p)) 4 1) (e := cell N (8 + 4 * p) (jup (Sd (8 + 4 * p)) 4 1) (Td (8 + 4 * p))) rfl
  rw [show ((0 : Nat) : Int) = 0 from rfl] at b1 c1 d1
  rw [Int.zero_add, Int.zero_add] at d1
  refine ⟨_, _, Td, ?_, H5, by rw [show (xset h4 (N + (8 + 4 * p)) (cell N (8 + 4 * p) (jup (Sd (8 + 4 * p)) 4 1) (Td (8 + 4 * p)))).2 = h4.2 from rfl, d3, c3, b3, a3], fun j j1 j2 j3 j4 => by rw [sup_ne _ _ j3, d4 j j4, a5 j j1 j2], by rw [sup_same, d4 _ (by omega), a5 _ (by omega) (by omega)], by rw [sup_ne _ _ (by omega)]; exact d5, by rw [sup_ne _ _ (by omega)]; exact d6⟩
  rw [sup_ne _ _ (show 10 + 4 * p ≠ 8 + 4 * p by omega)]
  have w0 : W m_Spr_weigh (0, [some (.ref (N + 24)), some (.ref (N + (8 + 4 * p))), none], []) h = some (.inl none, h1) := by rw [← a1]; simp only [E_Spr_weigh hW]
  simp (disch := omega) only [↓reduceIte, S0, S1, J_lt, J_le, J_eq, J_ldI, J_ldI3, J_ldB, J_ldL, J_ldR, J_stI, J_stB, J_stL, J_dv, j_gne, C0, CM, CP, CR, CJ, CS, CL, and_self, and_true, true_and, and_false, false_and, or_true, true_or, or_false, false_or, not_true_eq_false, not_false_eq_true, Option.map_some, J_ltT, J_ltF, J_leT, J_leF, J_eqT, J_eqF, J_ntT, J_ntF, E_Spr_spread hW, H.get, w0, b1, c1, d1, E_Job_setSpread hW, d2.get]
end SP4
