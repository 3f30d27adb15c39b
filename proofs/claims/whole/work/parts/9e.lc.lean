/-! the start: both objects are new -/
def c88 : Nat → Int := jup (jup (jup (jup (jup (jup (jup (jup (fun _ => 0) 0 4) 1 4) 2 4) 3 4) 4 4) 5 4) 6 4) 7 4
def c89 : Nat → Int := jup (jup (jup (jup (jup (jup (jup (jup (fun _ => 0) 0 0) 1 0) 2 0) 3 0) 4 0) 5 0) 6 0) 7 0
def c87 : Nat → Int := jup (jup (jup (jup (fun _ => 0) 0 0) 1 0) 2 0) 3 0
def Sini (S : Nat → Nat → Int) : Nat → Nat → Int := fun k => if k < 78 then S0r S k else if k = 78 then jup (fun _ => 0) 4 1020 else if k = 87 then c87 else if k = 88 then c88 else if k = 89 then c89 else if k = 90 then c89 else fun _ => 0
theorem Sini_z {S : Nat → Nat → Int} {k : Nat} (h : (1 ≤ k ∧ k < 31) ∨ (59 ≤ k ∧ k < 78) ∨ (79 ≤ k ∧ k < 87) ∨ 91 ≤ k) : Sini S k = fun _ => 0 := by
  unfold Sini
  by_cases c : k < 78
  · rw [if_pos c]; unfold S0r; rw [if_neg (by omega), if_neg (by omega)]
  · rw [if_neg c, if_neg (by omega), if_neg (by omega), if_neg (by omega), if_neg (by omega), if_neg (by omega)]
theorem Sini_m {S : Nat → Nat → Int} {k : Nat} (h : 31 ≤ k ∧ k < 59) : Sini S k = S k := by
  unfold Sini S0r; rw [if_pos (by omega), if_neg (by omega), if_pos h]
theorem c88_at {i : Nat} (hi : i < 8) : c88 i = 4 ∧ c89 i = 0 := by
  match i, hi with
  | 0, _ => exact ⟨rfl, rfl⟩
  | 1, _ => exact ⟨rfl, rfl⟩
  | 2, _ => exact ⟨rfl, rfl⟩
  | 3, _ => exact ⟨rfl, rfl⟩
  | 4, _ => exact ⟨rfl, rfl⟩
  | 5, _ => exact ⟨rfl, rfl⟩
  | 6, _ => exact ⟨rfl, rfl⟩
  | 7, _ => exact ⟨rfl, rfl⟩
theorem INV_0 {S : Nat → Nat → Int} (P : PLC S) (C : ∀ j, j < 8 → scr0 S j) : INV (Sini S) := by
  have z := @Sini_z S
  have e78 : Sini S 78 = jup (fun _ => 0) 4 1020 := rfl
  have e0 : Sini S 0 = jup (fun _ => 0) 7 1020 := rfl
  refine ⟨fun j _ => ?_, fun p hp j _ => ?_, ?_, fun q hq => ?_, ?_, ?_, fun i hi => ⟨?_, ?_⟩⟩
  · rw [z (by omega), z (by omega)]; exact ⟨rfl, by show (0 : Int) ≤ 0; omega, by show (0 : Int) ≤ 255; omega⟩
  · rw [z (k := 3 + p) (by omega), z (k := 80) (by omega)]; exact ⟨rfl, by show (0 : Int) ≤ 0; omega, by show (0 : Int) < 64; omega⟩
  · unfold I3; rw [e78, e0]; decide
  · rw [z (k := 8 + 4 * q) (by omega), z (k := 81) (by omega), z (k := 82) (by omega)]
    exact ⟨⟨rfl, rfl⟩, Or.inl rfl, Or.inl rfl, fun w => absurd w (show ¬ (0 : Int) = 1 by omega), fun w => absurd w (show ¬ (0 : Int) = 1 by omega)⟩
  · unfold SR; rw [e78, z (k := 59) (by omega)]
    exact ⟨rfl, rfl, rfl, fun w => absurd rfl w⟩
  · exact PLC_of P (fun k hk => Sini_m (by omega))
  · unfold SCi
    rw [show Sini S 88 = c88 from rfl, show Sini S 89 = c89 from rfl, show Sini S 90 = c89 from rfl, (c88_at hi).1, (c88_at hi).2, Sini_m (k := 35 + 3 * i) (by omega), Sini_m (k := 36 + 3 * i) (by omega), Sini_m (k := 37 + 3 * i) (by omega)]
    exact ⟨by decide, (C i hi).1, (C i hi).2⟩
  · left; rw [z (k := 91) (by omega)]
section LCS
variable {V : Nat → Value} {W : xWt} {b a n : Nat} {F B : Nat → Int}
set_option maxHeartbeats 8000000 in
theorem law_all (hW : xFix V W) (hR : ∀ M f h r, W M f h = some r → xR0 h r.2) {h : xH} (bN : b < h.2.1) (aN : a < h.2.1) (hv : V 0 = .ref a) (hB : ∀ j, j < 8 → B j = B0 j) (hb : h.1 b = some (jA 3 n F)) (ha : h.1 a = some (jA 3 8 B)) (hF : ∀ k, j32 (F k)) (hn : n < 2147483648) :
    ∃ hf : xH, W m_Law_law (0, [some (.ref b), none, none, none, none, none, none], []) h = some (.inl (some (jI 1)), hf) ∧ hf.2.1 ≤ h.2.1 + 102 + n / 7 ∧ hf.2.2 ≤ h.2.2 + 105000 + 6 * (n / 7) := by
  obtain ⟨N, eN⟩ : ∃ N, h.2.1 = N := ⟨_, rfl⟩
  rw [eN] at bN aN
  obtain ⟨h1, a1, s1, t1, n1, g1⟩ := b_new eN (xO' 0 (xF0 0)) 8
  obtain ⟨h2, S, a2, s2, t2, n2, P2, C2, g2⟩ := i_Room hW (N := N) (h := h1) s1 n1
  obtain ⟨h3, a3, s3, t3, n3, g3⟩ := b_new s2 (xO' 7 (xF0 7)) 31
  obtain ⟨h4, a4, s4, t4, n4, m79, m80, m81, m82, m83, m84, m85, m86, m87, m88, m89, m90, m91, m92, m93, m94, m95, m96, m97, m98, m99, m100, g4⟩ := i_Mod hW (N := N) (h := h3) s3 n3
  obtain ⟨h5, a5, s5, t5, n5, g5⟩ := b_mk (h := h4) (a := N + 101) s4 1 (z := 1) (n := 1) rfl (by decide)
  have lowb : ∀ o, o < N → h5.1 o = h.1 o := fun o ho => by
    rw [g5 o (Nat.ne_of_lt (Nat.lt_of_lt_of_le ho (Nat.le_add_right _ _))), g4 o (Nat.lt_of_lt_of_le ho (Nat.le_add_right _ _)) (Nat.ne_of_lt (Nat.lt_of_lt_of_le ho (Nat.le_add_right _ _))), g3 o (Nat.ne_of_lt (Nat.lt_of_lt_of_le ho (Nat.le_add_right _ _))), g2 o ho, g1 o (Nat.ne_of_lt ho)]
  have H : HP N h5 (Sini S) zT := by
    refine ⟨fun k hk => ?_, by rw [s5]; exact Nat.le_refl _⟩
    by_cases k1 : k < 78
    · rw [g5 _ (nne (by omega)), g4 _ (Nat.add_lt_add_left (by omega) N) (nne (by omega)), g3 _ (nne (by omega)), n2 k k1]
      unfold Sini; rw [if_pos k1]
    · have : k = 78 ∨ k = 79 ∨ k = 80 ∨ k = 81 ∨ k = 82 ∨ k = 83 ∨ k = 84 ∨ k = 85 ∨ k = 86 ∨ k = 87 ∨ k = 88 ∨ k = 89 ∨ k = 90 ∨ k = 91 ∨ k = 92 ∨ k = 93 ∨ k = 94 ∨ k = 95 ∨ k = 96 ∨ k = 97 ∨ k = 98 ∨ k = 99 ∨ k = 100 ∨ k = 101 := by omega
      rcases this with rfl | rfl | rfl | rfl | rfl | rfl | rfl | rfl | rfl | rfl | rfl | rfl | rfl | rfl | rfl | rfl | rfl | rfl | rfl | rfl | rfl | rfl | rfl | rfl
      · rw [g5 _ (nne (by decide)), n4]; rfl
      · rw [g5 _ (nne (by decide)), m79]; rfl
      · rw [g5 _ (nne (by decide)), m80]; rfl
      · rw [g5 _ (nne (by decide)), m81]; rfl
      · rw [g5 _ (nne (by decide)), m82]; rfl
      · rw [g5 _ (nne (by decide)), m83]; rfl
      · rw [g5 _ (nne (by decide)), m84]; rfl
      · rw [g5 _ (nne (by decide)), m85]; rfl
      · rw [g5 _ (nne (by decide)), m86]; rfl
      · rw [g5 _ (nne (by decide)), m87]; rfl
      · rw [g5 _ (nne (by decide)), m88]; rfl
      · rw [g5 _ (nne (by decide)), m89]; rfl
      · rw [g5 _ (nne (by decide)), m90]; rfl
      · rw [g5 _ (nne (by decide)), m91]; rfl
      · rw [g5 _ (nne (by decide)), m92]; rfl
      · rw [g5 _ (nne (by decide)), m93]; rfl
      · rw [g5 _ (nne (by decide)), m94]; rfl
      · rw [g5 _ (nne (by decide)), m95]; rfl
      · rw [g5 _ (nne (by decide)), m96]; rfl
      · rw [g5 _ (nne (by decide)), m97]; rfl
      · rw [g5 _ (nne (by decide)), m98]; rfl
      · rw [g5 _ (nne (by decide)), m99]; rfl
      · rw [g5 _ (nne (by decide)), m100]; rfl
      · rw [n5]; rfl
  obtain ⟨hf, f1, f2, f3⟩ := law_lp hW hR bN aN hv hB hF hn (n / 7) 0 h5 _ _ none none H (INV_0 P2 C2) (by rw [lowb b bN]; exact hb) (by rw [lowb a aN]; exact ha) (by omega) (by omega) (by omega)
  refine ⟨hf, ?_, ?_, ?_⟩
  · rw [← f1]
    simp only [E_Law_law hW, S0, eN, a1, a2, s2, a3, a4, a5]
  · rw [s5] at f2; rw [eN]; omega
  · rw [t5, t4, t3, t2, t1] at f3; omega
end LCS
