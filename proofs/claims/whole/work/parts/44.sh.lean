/-! what a parted colour has -/
def sepA (A : Nat → Int) (s l c i : Int) : Int :=
  if 4 ≤ i then A (8 * c + i).toNat else if i = 3 then A (8 * c + 3).toNat + gy (A (8 * c).toNat) (A (8 * c + 1).toNat) (A (8 * c + 2).toNat) (A (8 * c + 3).toNat) s
  else lm3 (A (8 * c).toNat - gy (A (8 * c).toNat) (A (8 * c + 1).toNat) (A (8 * c + 2).toNat) (A (8 * c + 3).toNat) s) (A (8 * c + 1).toNat - gy (A (8 * c).toNat) (A (8 * c + 1).toNat) (A (8 * c + 2).toNat) (A (8 * c + 3).toNat) s) (A (8 * c + 2).toNat - gy (A (8 * c).toNat) (A (8 * c + 1).toNat) (A (8 * c + 2).toNat) (A (8 * c + 3).toNat) s) (A (8 * c + 3).toNat + gy (A (8 * c).toNat) (A (8 * c + 1).toNat) (A (8 * c + 2).toNat) (A (8 * c + 3).toNat) s) l (A (8 * c + i).toNat - gy (A (8 * c).toNat) (A (8 * c + 1).toNat) (A (8 * c + 2).toNat) (A (8 * c + 3).toNat) s)
theorem sepA_congr {A A' : Nat → Int} {s l c i : Int} (hc : 0 ≤ c) (hi : 0 ≤ i ∧ i < 8) (h : ∀ q : Nat, (8 * c).toNat ≤ q → q < (8 * c).toNat + 8 → A q = A' q) : sepA A s l c i = sepA A' s l c i := by
  unfold sepA
  rw [h (8 * c).toNat (by omega) (by omega), h (8 * c + 1).toNat (by omega) (by omega), h (8 * c + 2).toNat (by omega) (by omega), h (8 * c + 3).toNat (by omega) (by omega), h (8 * c + i).toNat (by omega) (by omega)]
theorem klm_mtb {A : Nat → Int} {s l c : Int} (hc : 0 ≤ c ∧ c < 64) (hs : 0 ≤ s ∧ s ≤ 100) (hA : ∀ j, j < 512 → 0 ≤ A j ∧ A j ≤ 255) : (∀ i : Int, 0 ≤ i → i < 8 → klm (mtb A (c * 8) s) (c * 8) l (8 * c + i).toNat = sepA A s l c i) ∧ ∀ q : Nat, (q < (8 * c).toNat ∨ (8 * c).toNat + 8 ≤ q) → klm (mtb A (c * 8) s) (c * 8) l q = A q := by
  have h0 := hA (8 * c).toNat (by omega)
  have h1 := hA (8 * c + 1).toNat (by omega)
  have h2 := hA (8 * c + 2).toNat (by omega)
  have h3 := hA (8 * c + 3).toNat (by omega)
  obtain ⟨g1, g2, g3, g4, g5, g6, g7⟩ := gy_rng h0 h1 h2 h3 hs
  have ec : c * 8 = 8 * c := by omega
  rw [ec]
  have m0 : mtb A (8 * c) s (8 * c).toNat = A (8 * c).toNat - gy (A (8 * c).toNat) (A (8 * c + 1).toNat) (A (8 * c + 2).toNat) (A (8 * c + 3).toNat) s := by unfold mtb; simp (disch := omega) only [jup_ne, jup_same]
  have m1 : mtb A (8 * c) s (8 * c + 1).toNat = A (8 * c + 1).toNat - gy (A (8 * c).toNat) (A (8 * c + 1).toNat) (A (8 * c + 2).toNat) (A (8 * c + 3).toNat) s := by unfold mtb; simp (disch := omega) only [jup_ne, jup_same]
  have m2 : mtb A (8 * c) s (8 * c + 2).toNat = A (8 * c + 2).toNat - gy (A (8 * c).toNat) (A (8 * c + 1).toNat) (A (8 * c + 2).toNat) (A (8 * c + 3).toNat) s := by unfold mtb; simp (disch := omega) only [jup_ne, jup_same]
  have m3 : mtb A (8 * c) s (8 * c + 3).toNat = A (8 * c + 3).toNat + gy (A (8 * c).toNat) (A (8 * c + 1).toNat) (A (8 * c + 2).toNat) (A (8 * c + 3).toNat) s := by unfold mtb; simp (disch := omega) only [jup_same]
  have mo : ∀ q : Nat, q ≠ (8 * c).toNat → q ≠ (8 * c + 1).toNat → q ≠ (8 * c + 2).toNat → q ≠ (8 * c + 3).toNat → mtb A (8 * c) s q = A q := fun q e0 e1 e2 e3 => by unfold mtb; rw [jup_ne _ _ e3, jup_ne _ _ e2, jup_ne _ _ e1, jup_ne _ _ e0]
  generalize hB : mtb A (8 * c) s = B at *
  refine ⟨fun i i0 i8 => ?_, fun q hq => ?_⟩
  · unfold sepA
    generalize gy (A (8 * c).toNat) (A (8 * c + 1).toNat) (A (8 * c + 2).toNat) (A (8 * c + 3).toNat) s = g at *
    rw [← m0, ← m1, ← m2, ← m3]
    have key : ∀ x : Int, (x = B (8 * c).toNat ∨ x = B (8 * c + 1).toNat ∨ x = B (8 * c + 2).toNat) → lm3 (B (8 * c).toNat) (B (8 * c + 1).toNat) (B (8 * c + 2).toNat) (B (8 * c + 3).toNat) l x = if B (8 * c).toNat + B (8 * c + 1).toNat + B (8 * c + 2).toNat = 0 ∨ B (8 * c).toNat + B (8 * c + 1).toNat + B (8 * c + 2).toNat + B (8 * c + 3).toNat ≤ l then x else x * mx (l - B (8 * c + 3).toNat) 0 / (B (8 * c).toNat + B (8 * c + 1).toNat + B (8 * c + 2).toNat) := by
      intro x hx
      unfold lm3
      have em : mx (l - B (8 * c + 3).toNat) 0 = if B (8 * c + 3).toNat < l then l - B (8 * c + 3).toNat else 0 := by unfold mx; split <;> split <;> omega
      rw [em]
      by_cases z1 : B (8 * c).toNat + B (8 * c + 1).toNat + B (8 * c + 2).toNat + B (8 * c + 3).toNat ≤ l
      · rw [if_pos z1, if_pos (Or.inr z1)]
      · by_cases z2 : B (8 * c).toNat + B (8 * c + 1).toNat + B (8 * c + 2).toNat = 0
        · rw [if_neg z1, if_pos z2, if_pos (Or.inl z2)]
          omega
        · have z3 : ¬ (B (8 * c).toNat + B (8 * c + 1).toNat + B (8 * c + 2).toNat = 0 ∨ B (8 * c).toNat + B (8 * c + 1).toNat + B (8 * c + 2).toNat + B (8 * c + 3).toNat ≤ l) := fun z => z.elim z2 z1
          rw [if_neg z1, if_neg z2, if_neg z3]
    by_cases i4 : 4 ≤ i
    · rw [if_pos i4, ← mo (8 * c + i).toNat (by omega) (by omega) (by omega) (by omega)]
      unfold klm
      split
      · rfl
      · simp (disch := omega) only [jup_ne]
    · rw [if_neg i4]
      by_cases i3 : i = 3
      · rw [if_pos i3, i3]
        unfold klm
        split
        · rfl
        · simp (disch := omega) only [jup_ne]
      · rw [if_neg i3]
        have hi : i = 0 ∨ i = 1 ∨ i = 2 := by omega
        rcases hi with rfl | rfl | rfl
        · rw [show 8 * c + 0 = 8 * c by omega, ← m0, key _ (Or.inl rfl)]
          unfold klm
          split
          · rfl
          · simp (disch := omega) only [jup_ne, jup_same]
        · rw [← m1, key _ (Or.inr (Or.inl rfl))]
          unfold klm
          split
          · rfl
          · simp (disch := omega) only [jup_ne, jup_same]
        · rw [← m2, key _ (Or.inr (Or.inr rfl))]
          unfold klm
          split
          · rfl
          · simp (disch := omega) only [jup_same]
  · rw [← mo q (by omega) (by omega) (by omega) (by omega)]
    unfold klm
    split
    · rfl
    · simp (disch := omega) only [jup_ne]
theorem clF_at {s l : Int} (hs : 0 ≤ s ∧ s ≤ 100) (hl : 200 ≤ l ∧ l ≤ 1020) : ∀ (n : Nat) (c : Int) (A : Nat → Int), 0 ≤ c → c + n ≤ 64 → (∀ j, j < 512 → 0 ≤ A j ∧ A j ≤ 255) → ∀ j : Nat, j < 512 → clF s l n c A j = if c ≤ j / 8 ∧ (j / 8 : Int) < c + n then sepA A s l (j / 8) (j % 8) else A j
  | 0, c, A, h0, h1, hA, j, hj => by rw [if_neg (by omega)]; rfl
  | n + 1, c, A, h0, h1, hA, j, hj => by
    obtain ⟨k1, k2⟩ := klm_mtb (A := A) (s := s) (l := l) (c := c) ⟨h0, by omega⟩ hs hA
    have hA2 := klm_rng (A := mtb A (c * 8) s) (f := c * 8) (l := l) (by omega) hl (mtb_rng (A := A) (f := c * 8) (s := s) (by omega) hs hA)
    show clF s l n (c + 1) (klm (mtb A (c * 8) s) (c * 8) l) j = _
    rw [clF_at hs hl n (c + 1) _ (by omega) (by omega) hA2 j hj]
    by_cases z1 : (j / 8 : Int) = c
    · rw [if_neg (by omega), if_pos (by omega)]
      have := k1 (j % 8) (by omega) (by omega)
      rw [show (8 * c + (j : Int) % 8).toNat = j by omega] at this
      rw [this, z1]
    · by_cases z2 : c + 1 ≤ (j / 8 : Int) ∧ (j / 8 : Int) < c + 1 + n
      · rw [if_pos z2, if_pos (by omega)]
        exact sepA_congr (by omega) (by omega) (fun q q1 q2 => k2 q (by omega))
      · rw [if_neg z2, if_neg (by omega)]
        exact k2 j (by omega)
theorem out8_at {A Q : Nat → Int} {b c : Int} (hb : 0 ≤ b) (hc : 0 ≤ c) : ∀ (n : Nat) (i : Int) (G : Nat → Int), 0 ≤ i → i + n ≤ 8 → (∀ k : Int, i ≤ k → k < i + n → out8 A Q b c n i G (b + 8 * c + k).toNat = if 4 ≤ k then A (8 * c + k).toNat else Q k.toNat) ∧ ∀ q : Nat, ((q : Int) < b + 8 * c + i ∨ b + 8 * c + i + n ≤ (q : Int)) → out8 A Q b c n i G q = G q
  | 0, i, G, h0, h1 => ⟨fun k a b => by omega, fun q hq => rfl⟩
  | n + 1, i, G, h0, h1 => by
    obtain ⟨r1, r2⟩ := out8_at (A := A) (Q := Q) hb hc n (i + 1) (jup G (b + 8 * c + i).toNat (if 4 ≤ i then A (8 * c + i).toNat else Q i.toNat)) (by omega) (by omega)
    refine ⟨fun k a1 a2 => ?_, fun q hq => ?_⟩
    · show out8 A Q b c n (i + 1) (jup G (b + 8 * c + i).toNat _) _ = _
      by_cases e : k = i
      · subst e
        rw [r2 _ (by omega), jup_same]
      · exact r1 k (by omega) (by omega)
    · show out8 A Q b c n (i + 1) (jup G (b + 8 * c + i).toNat _) _ = _
      rw [r2 q (by omega), jup_ne _ _ (by omega)]
section SH
variable {V : Nat → Value} {W : xWt} {N : Nat} {h : xH} {FM : Nat → Int} {GM : Nat → Int64} {A Q G : Nat → Int}
theorem q_sepColour (hW : xFix V W) (hm : h.1 (N + 78) = some (cell N 78 FM GM)) (ha : h.1 (N + 79) = some (jA 0 512 A)) (hq : h.1 (N + 87) = some (jA 0 4 Q)) (hg : h.1 (N + 84) = some (jA 0 2048 G)) {p c : Int} (hp : 0 ≤ p ∧ p < 4) (hc : 0 ≤ c ∧ c < 64) (hs : 0 ≤ FM 3 ∧ FM 3 ≤ 100) (hl : 200 ≤ FM 4 ∧ FM 4 ≤ 1020) (hA : ∀ j, j < 512 → 0 ≤ A j ∧ A j ≤ 255) :
    ∃ Q' G' : Nat → Int, W m_Mod_separateColour (0, [some (.ref (N + 78)), some (.int (Int32.ofInt p)), some (.int (Int32.ofInt c)), none, none, none, none, none], []) h = some (.inl none, xset (xset h (N + 87) (jA 0 4 Q')) (N + 84) (jA 0 2048 G')) ∧ (∀ i : Int, 0 ≤ i → i < 8 → G' (512 * p + 8 * c + i).toNat = sepA A (FM 3) (FM 4) c i) ∧ ∀ q : Nat, ((q : Int) < 512 * p + 8 * c ∨ 512 * p + 8 * c + 8 ≤ (q : Int)) → G' q = G q := by
  have h0 := hA (8 * c).toNat (by omega)
  have h1 := hA (8 * c + 1).toNat (by omega)
  have h2 := hA (8 * c + 2).toNat (by omega)
  have h3 := hA (8 * c + 3).toNat (by omega)
  obtain ⟨g1, g2, g3, g4, g5, g6, g7⟩ := gy_rng h0 h1 h2 h3 hs
  have e1 := q_sep1 hW hm ha hq (p := p) hc
  generalize hQ1 : q4 Q (A (8 * c).toNat) (A (8 * c + 1).toNat) (A (8 * c + 2).toNat) (A (8 * c + 3).toNat) = Q1 at e1
  have v0 : Q1 0 = A (8 * c).toNat := by rw [← hQ1]; rfl
  have v1 : Q1 1 = A (8 * c + 1).toNat := by rw [← hQ1]; rfl
  have v2 : Q1 2 = A (8 * c + 2).toNat := by rw [← hQ1]; rfl
  have v3 : Q1 3 = A (8 * c + 3).toNat := by rw [← hQ1]; rfl
  have e2 := q_sep2 hW (N := N) (h := xset h (N + 87) (jA 0 4 Q1)) (FM := FM) (GM := GM) (Q := Q1) (by rw [j_gne _ _ (by omega)]; exact hm) (j_get _ _ _) (p := p) (c := c) (by rw [v0]; exact h0) (by rw [v1]; exact h1) (by rw [v2]; exact h2) (by rw [v3]; exact h3) hs
  have e3 := q_sep3 hW (N := N) (h := xset h (N + 87) (jA 0 4 Q1)) (FM := FM) (GM := GM) (Q := Q1) (by rw [j_gne _ _ (by omega)]; exact hm) (j_get _ _ _) (p := p) (c := c) (u := mn (Q1 0) (mn (Q1 1) (Q1 2))) (g := gy (Q1 0) (Q1 1) (Q1 2) (Q1 3) (FM 3))
  rw [v0, v1, v2, v3] at e2 e3
  rw [j_ss] at e3
  generalize hgy : gy (A (8 * c).toNat) (A (8 * c + 1).toNat) (A (8 * c + 2).toNat) (A (8 * c + 3).toNat) (FM 3) = g at *
  generalize hQ2 : q4 Q1 (A (8 * c).toNat - g) (A (8 * c + 1).toNat - g) (A (8 * c + 2).toNat - g) (A (8 * c + 3).toNat + g) = Q2 at e3
  have w0 : Q2 0 = A (8 * c).toNat - g := by rw [← hQ2]; rfl
  have w1 : Q2 1 = A (8 * c + 1).toNat - g := by rw [← hQ2]; rfl
  have w2 : Q2 2 = A (8 * c + 2).toNat - g := by rw [← hQ2]; rfl
  have w3 : Q2 3 = A (8 * c + 3).toNat + g := by rw [← hQ2]; rfl
  obtain ⟨u2, u3, Q', e4, z0, z1, z2, z3⟩ := q_sep4 hW (N := N) (h := xset h (N + 87) (jA 0 4 Q2)) (FM := FM) (GM := GM) (Q := Q2) (by rw [j_gne _ _ (by omega)]; exact hm) (j_get _ _ _) (p := p) (c := c) (u := mn (A (8 * c).toNat) (mn (A (8 * c + 1).toNat) (A (8 * c + 2).toNat))) (g := g) (by omega) (by omega) (by omega) (by omega) hl
  rw [j_ss] at e4
  have e5 := q_sep5 hW (N := N) (FM := FM) (GM := GM) (A := A) (Q := Q') (p := p) (c := c) (u := mn (A (8 * c).toNat) (mn (A (8 * c + 1).toNat) (A (8 * c + 2).toNat))) (g := g) (z := Q2 0 + Q2 1 + Q2 2) (y := u3) hp hc 8 0 G (xset h (N + 87) (jA 0 4 Q')) (by rw [j_gne _ _ (by omega)]; exact hm) (by rw [j_gne _ _ (by omega)]; exact ha) (j_get _ _ _) (by rw [j_gne _ _ (by omega)]; exact hg) (by omega) (by omega)
  obtain ⟨o1, o2⟩ := out8_at (A := A) (Q := Q') (b := 512 * p) (c := c) (by omega) (by omega) 8 0 G (by omega) (by omega)
  refine ⟨Q', out8 A Q' (512 * p) c 8 0 G, ?_, fun i i0 i8 => ?_, fun q hq => o2 q (by omega)⟩
  · rw [e1, e2, e3, e4]
    simp only [E_Mod_separateColour_p1 hW]
    exact e5
  · rw [o1 i i0 (by omega)]
    unfold sepA
    rw [hgy]
    by_cases i4 : 4 ≤ i
    · rw [if_pos i4, if_pos i4]
    · rw [if_neg i4, if_neg i4]
      have hi : i = 0 ∨ i = 1 ∨ i = 2 ∨ i = 3 := by omega
      rcases hi with rfl | rfl | rfl | rfl
      · rw [if_neg (by omega), show 8 * c + 0 = 8 * c by omega, ← w0, ← w1, ← w2, ← w3]; exact z0
      · rw [if_neg (by omega), ← w0, ← w1, ← w2, ← w3]; exact z1
      · rw [if_neg (by omega), ← w0, ← w1, ← w2, ← w3]; exact z2
      · rw [if_pos rfl, ← w3]; exact z3
end SH
