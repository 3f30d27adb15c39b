/-! the reference finds a heart -/
def hxy (S : Nat → Nat → Int) (p q : Int) : Nat → Nat → Int := sup S 78 (jup (jup (S 78) 19 p) 20 q)
theorem hxy_ne (S : Nat → Nat → Int) (p q : Int) {k : Nat} (h : k ≠ 78) : hxy S p q k = S k := sup_ne _ _ h
theorem hxy_x (S : Nat → Nat → Int) (p q : Int) : hxy S p q 78 19 = p := by unfold hxy; rw [sup_same, jup_ne _ _ (by omega), jup_same]
theorem hxy_y (S : Nat → Nat → Int) (p q : Int) : hxy S p q 78 20 = q := by unfold hxy; rw [sup_same, jup_same]
theorem hxy_f (S : Nat → Nat → Int) (p q : Int) {k : Nat} (h : k ≠ 19 ∧ k ≠ 20) : hxy S p q 78 k = S 78 k := by unfold hxy; rw [sup_same, jup_ne _ _ h.2, jup_ne _ _ h.1]
theorem hxy_id (S : Nat → Nat → Int) : hxy S (S 78 19) (S 78 20) = S := by
  funext k j
  by_cases hk : k = 78
  · subst hk
    by_cases h1 : j = 19
    · subst h1; exact hxy_x _ _ _
    · by_cases h2 : j = 20
      · subst h2; exact hxy_y _ _ _
      · exact hxy_f _ _ _ ⟨h1, h2⟩
  · rw [hxy_ne _ _ _ hk]
theorem hxy_hxy (S : Nat → Nat → Int) (p q p' q' : Int) : hxy (hxy S p q) p' q' = hxy S p' q' := by
  funext k j
  by_cases hk : k = 78
  · subst hk
    by_cases h1 : j = 19
    · subst h1; rw [hxy_x, hxy_x]
    · by_cases h2 : j = 20
      · subst h2; rw [hxy_y, hxy_y]
      · rw [hxy_f _ _ _ ⟨h1, h2⟩, hxy_f _ _ _ ⟨h1, h2⟩, hxy_f _ _ _ ⟨h1, h2⟩]
  · rw [hxy_ne _ _ _ hk, hxy_ne _ _ _ hk, hxy_ne _ _ _ hk]
/-- the candidates d, e steps from the first rest -/
def cdx (a b x k l d e : Int) : Int := x + a * (k + d) - b * (l + e)
def cdy (a b y k l d e : Int) : Int := y + b * (k + d) + a * (l + e)
def FI (a b s x y k l fl p q : Int) (P : Int → Int → Prop) : Prop := (fl = 1 ∧ ∀ d e, ¬ P d e) ∨ (fl = 0 ∧ (∃ d e, P d e ∧ p = cdx a b x k l d e ∧ q = cdy a b y k l d e) ∧ ∀ d e, P d e → ky a b s p q ≤ ky a b s (cdx a b x k l d e) (cdy a b y k l d e))
def PD (d0 e0 d e : Int) : Prop := (-2 ≤ d ∧ d ≤ 1 ∧ -2 ≤ e ∧ e ≤ 1) ∧ (d < d0 ∨ (d = d0 ∧ e < e0))
theorem cd_far {a b x y k l d e : Int} (hn : 1 ≤ a * a + b * b ∧ a * a + b * b ≤ 400) (hk : 0 ≤ a * x + b * y + (a * a + b * b) * k ∧ a * x + b * y + (a * a + b * b) * k < a * a + b * b) (hl : 0 ≤ a * y - b * x + (a * a + b * b) * l ∧ a * y - b * x + (a * a + b * b) * l < a * a + b * b) (hd : -2 ≤ d ∧ d ≤ 1) (he : -2 ≤ e ∧ e ≤ 1) :
    (-2 * (a * a + b * b) ≤ a * x + b * y + (a * a + b * b) * (k + d) ∧ a * x + b * y + (a * a + b * b) * (k + d) < 2 * (a * a + b * b)) ∧ (-2 * (a * a + b * b) ≤ a * y - b * x + (a * a + b * b) * (l + e) ∧ a * y - b * x + (a * a + b * b) * (l + e) < 2 * (a * a + b * b)) ∧ cdx a b x k l d e * cdx a b x k l d e + cdy a b y k l d e * cdy a b y k l d e < 3600 := by
  have r : ∀ u z : Int, (0 ≤ u ∧ u < a * a + b * b) → (-2 ≤ z ∧ z ≤ 1) → -2 * (a * a + b * b) ≤ u + (a * a + b * b) * z ∧ u + (a * a + b * b) * z < 2 * (a * a + b * b) := by
    intro u z hu hz
    have : z = -2 ∨ z = -1 ∨ z = 0 ∨ z = 1 := by omega
    rcases this with rfl | rfl | rfl | rfl <;> omega
  have r1 := r _ d hk hd
  have r2 := r _ e hl he
  have e1 : a * x + b * y + (a * a + b * b) * (k + d) = a * x + b * y + (a * a + b * b) * k + (a * a + b * b) * d := by grind
  have e2 : a * y - b * x + (a * a + b * b) * (l + e) = a * y - b * x + (a * a + b * b) * l + (a * a + b * b) * e := by grind
  rw [e1, e2]
  refine ⟨r1, r2, ?_⟩
  have := dst_le (n := a * a + b * b) (m := 2 * (a * a + b * b)) (by omega) (nrm_sc a b x y (k + d) (l + e)) (by omega) (by omega) (8 * (a * a + b * b)) (by
    have : 2 * (2 * (a * a + b * b) * (2 * (a * a + b * b))) = (a * a + b * b) * (8 * (a * a + b * b)) := by grind
    omega)
  unfold cdx cdy
  omega
section QGS
variable {V : Nat → Value} {W : xWt} {N : Nat} {T : Nat → Nat → Int64} {S : Nat → Nat → Int}
theorem FI_first {a b s x y k l p q d e : Int} {P Q : Int → Int → Prop} (h : FI a b s x y k l 1 p q P) (hQ : ∀ d' e', Q d' e' ↔ P d' e' ∨ (d' = d ∧ e' = e)) : FI a b s x y k l 0 (cdx a b x k l d e) (cdy a b y k l d e) Q := by
  rcases h with ⟨-, h⟩ | ⟨h, -⟩
  · refine Or.inr ⟨rfl, ⟨d, e, (hQ d e).mpr (Or.inr ⟨rfl, rfl⟩), rfl, rfl⟩, fun d' e' c => ?_⟩
    rcases (hQ d' e').mp c with c | ⟨c1, c2⟩
    · exact absurd c (h d' e')
    · rw [c1, c2]; exact Int.le_refl _
  · omega
theorem FI_take {a b s x y k l p q d e : Int} {P Q : Int → Int → Prop} (h : FI a b s x y k l 0 p q P) (hQ : ∀ d' e', Q d' e' ↔ P d' e' ∨ (d' = d ∧ e' = e)) (lt : ky a b s (cdx a b x k l d e) (cdy a b y k l d e) < ky a b s p q) : FI a b s x y k l 0 (cdx a b x k l d e) (cdy a b y k l d e) Q := by
  rcases h with ⟨h, -⟩ | ⟨-, -, h⟩
  · omega
  · refine Or.inr ⟨rfl, ⟨d, e, (hQ d e).mpr (Or.inr ⟨rfl, rfl⟩), rfl, rfl⟩, fun d' e' c => ?_⟩
    rcases (hQ d' e').mp c with c | ⟨c1, c2⟩
    · have := h d' e' c; omega
    · rw [c1, c2]; exact Int.le_refl _
theorem FI_leave {a b s x y k l p q d e : Int} {P Q : Int → Int → Prop} (h : FI a b s x y k l 0 p q P) (hQ : ∀ d' e', Q d' e' ↔ P d' e' ∨ (d' = d ∧ e' = e)) (nl : ¬ ky a b s (cdx a b x k l d e) (cdy a b y k l d e) < ky a b s p q) : FI a b s x y k l 0 p q Q := by
  rcases h with ⟨h, -⟩ | ⟨-, ⟨d1, e1, h1, h2⟩, h⟩
  · omega
  · refine Or.inr ⟨rfl, ⟨d1, e1, (hQ _ _).mpr (Or.inl h1), h2⟩, fun d' e' c => ?_⟩
    rcases (hQ d' e').mp c with c | ⟨c1, c2⟩
    · exact h d' e' c
    · rw [c1, c2]; omega
theorem FI_cg {a b s x y k l fl p q : Int} {P Q : Int → Int → Prop} (h : FI a b s x y k l fl p q P) (hQ : ∀ d e, Q d e ↔ P d e) : FI a b s x y k l fl p q Q := by
  rcases h with ⟨h, h1⟩ | ⟨h, ⟨d1, e1, h1, h2⟩, h3⟩
  · exact Or.inl ⟨h, fun d e c => h1 d e ((hQ d e).mp c)⟩
  · exact Or.inr ⟨h, ⟨d1, e1, (hQ _ _).mpr h1, h2⟩, fun d e c => h3 d e ((hQ d e).mp c)⟩
theorem q_fhIn (hW : xFix V W) {ink a b s x y k l n u v d : Int} (hi : 0 ≤ ink ∧ ink < 8) (ea : S 88 ink.toNat = a) (eb : S 89 ink.toNat = b) (es : S 90 ink.toNat = s) (ha : -20 ≤ a ∧ a ≤ 20) (hb : -20 ≤ b ∧ b ≤ 20) (hs : 0 ≤ s ∧ s < 3) (en : a * a + b * b = n) (hn : 1 ≤ n ∧ n ≤ 400)
    (eu : u = a * x + b * y + n * k) (ev : v = a * y - b * x + n * l) (hu : 0 ≤ u ∧ u < n) (hv : 0 ≤ v ∧ v < n) (hd : -2 ≤ d ∧ d ≤ 1) : ∀ (r : Nat) (e fl p q : Int) (h : xH) (s12 s13 : Option Value), HP N h (hxy S p q) T → -2 ≤ e → e + r = 2 → FI a b s x y k l fl p q (PD d e) →
    ∃ (fl' p' q' : Int) (h' : xH) (s12' s13' : Option Value), W m_Mod_findHeart (86, [some (.ref (N + 78)), some (.int (Int32.ofInt ink)), some (.int (Int32.ofInt x)), some (.int (Int32.ofInt y)), some (.int (Int32.ofInt a)), some (.int (Int32.ofInt b)), some (.int (Int32.ofInt n)), some (.int (Int32.ofInt u)), some (.int (Int32.ofInt v)), some (.int (Int32.ofInt fl)), some (.int (Int32.ofInt (u + n * d))), some (.int (Int32.ofInt (v + n * e))), s12, s13], []) h = W m_Mod_findHeart (178, [some (.ref (N + 78)), some (.int (Int32.ofInt ink)), some (.int (Int32.ofInt x)), some (.int (Int32.ofInt y)), some (.int (Int32.ofInt a)), some (.int (Int32.ofInt b)), some (.int (Int32.ofInt n)), some (.int (Int32.ofInt u)), some (.int (Int32.ofInt v)), some (.int (Int32.ofInt (fl'))), some (.int (Int32.ofInt (u + n * d))), some (.int (Int32.ofInt (v + n * 2))), s12', s13'], []) h' ∧ HP N h' (hxy S p' q') T ∧ h'.2 = h.2 ∧ FI a b s x y k l fl' p' q' (PD d 2) := by
  intro r
  induction r with
  | zero =>
    intro e fl p q h s12 s13 H e0 e1 F
    have : e = 2 := by omega
    subst this
    refine ⟨fl, p, q, h, s12, s13, ?_, H, rfl, F⟩
    rw [L_Mod_findHeart_86 hW]
    simp (disch := omega) only [↓reduceIte, S0, S1, J_lt, J_le, J_eq, J_ldI, J_ldI3, J_ldB, J_ldL, J_ldR, J_stI, J_stB, J_stL, J_dv, j_gne, C0, CM, CP, CR, CJ, CS, CL, and_self, and_true, true_and, and_false, false_and, or_true, true_or, or_false, false_or, not_true_eq_false, not_false_eq_true, Option.map_some, J_ltT, J_ltF, J_leT, J_leF, J_eqT, J_eqF, J_ntT, J_ntF]
  | succ r ih =>
    intro e fl p q h s12 s13 H e0 e1 F
    have he : -2 ≤ e ∧ e ≤ 1 := by omega
    have far := cd_far (a := a) (b := b) (x := x) (y := y) (k := k) (l := l) (d := d) (e := e) (by omega) (by rw [en, ← eu]; exact ⟨hu.1, hu.2⟩) (by rw [en, ← ev]; exact ⟨hv.1, hv.2⟩) hd he
    have nd : -2 * n ≤ u + n * d ∧ u + n * d < 2 * n := by
      have : a * x + b * y + (a * a + b * b) * (k + d) = u + n * d := by rw [eu, en]; grind
      rw [this, en] at far; exact far.1
    have ne : -2 * n ≤ v + n * e ∧ v + n * e < 2 * n := by
      have : a * y - b * x + (a * a + b * b) * (l + e) = v + n * e := by rw [ev, en]; grind
      rw [this, en] at far; exact far.2.1
    have le1 : n * e ≤ n * 1 := Int.mul_le_mul_of_nonneg_left he.2 (by omega)
    have m1 := mulb (A := 20) (B := 800) ha (y := u + n * d) (by omega)
    have m2 := mulb (A := 20) (B := 800) hb (y := v + n * e) (by omega)
    have m3 := mulb (A := 20) (B := 800) hb (y := u + n * d) (by omega)
    have m4 := mulb (A := 20) (B := 800) ha (y := v + n * e) (by omega)
    have dx : (a * (u + n * d) - b * (v + n * e)).tdiv n = cdx a b x k l d e := by
      rw [show a * (u + n * d) - b * (v + n * e) = n * cdx a b x k l d e by unfold cdx; rw [eu, ev, ← en]; grind]
      exact Int.mul_tdiv_cancel_left _ (by omega)
    have dy : (b * (u + n * d) + a * (v + n * e)).tdiv n = cdy a b y k l d e := by
      rw [show b * (u + n * d) + a * (v + n * e) = n * cdy a b y k l d e by unfold cdy; rw [eu, ev, ← en]; grind]
      exact Int.mul_tdiv_cancel_left _ (by omega)
    have cb := ds_b (x := cdx a b x k l d e) (y := cdy a b y k l d e) (m := 60) (by omega) (by omega)
    have step : W m_Mod_findHeart (86, [some (.ref (N + 78)), some (.int (Int32.ofInt ink)), some (.int (Int32.ofInt x)), some (.int (Int32.ofInt y)), some (.int (Int32.ofInt a)), some (.int (Int32.ofInt b)), some (.int (Int32.ofInt n)), some (.int (Int32.ofInt u)), some (.int (Int32.ofInt v)), some (.int (Int32.ofInt fl)), some (.int (Int32.ofInt (u + n * d))), some (.int (Int32.ofInt (v + n * e))), s12, s13], []) h = W m_Mod_findHeart (126, [some (.ref (N + 78)), some (.int (Int32.ofInt ink)), some (.int (Int32.ofInt x)), some (.int (Int32.ofInt y)), some (.int (Int32.ofInt a)), some (.int (Int32.ofInt b)), some (.int (Int32.ofInt n)), some (.int (Int32.ofInt u)), some (.int (Int32.ofInt v)), some (.int (Int32.ofInt fl)), some (.int (Int32.ofInt (u + n * d))), some (.int (Int32.ofInt (v + n * e))), some (.int (Int32.ofInt (cdx a b x k l d e))), s13], [(.int (Int32.ofInt (cdy a b y k l d e)))]) h := by
      rw [L_Mod_findHeart_86 hW, (E_Mod_findHeart hW).2.2.2.2.2.2.2.2.2.1]
      simp (disch := omega) only [↓reduceIte, S0, S1, J_lt, J_le, J_eq, J_ldI, J_ldI3, J_ldB, J_ldL, J_ldR, J_stI, J_stB, J_stL, J_dv, j_gne, C0, CM, CP, CR, CJ, CS, CL, and_self, and_true, true_and, and_false, false_and, or_true, true_or, or_false, false_or, not_true_eq_false, not_false_eq_true, Option.map_some, J_ltT, J_ltF, J_leT, J_leF, J_eqT, J_eqF, J_ntT, J_ntF, J_tdiv, dx]
      rw [(E_Mod_findHeart hW).2.2.2.2.2.2.2.2.2.2.1]
      simp (disch := omega) only [↓reduceIte, S0, S1, J_lt, J_le, J_eq, J_ldI, J_ldI3, J_ldB, J_ldL, J_ldR, J_stI, J_stB, J_stL, J_dv, j_gne, C0, CM, CP, CR, CJ, CS, CL, and_self, and_true, true_and, and_false, false_and, or_true, true_or, or_false, false_or, not_true_eq_false, not_false_eq_true, Option.map_some, J_ltT, J_ltF, J_leT, J_leF, J_eqT, J_eqF, J_ntT, J_ntF, J_tdiv, dy]
    have Qs : ∀ d' e', PD d (e + 1) d' e' ↔ PD d e d' e' ∨ (d' = d ∧ e' = e) := by
      intro d' e'; unfold PD; omega
    have en1 : v + n * e + n = v + n * (e + 1) := by grind
    have hset : HP N (xset (xset h (N + 78) (cell N 78 (jup (hxy S p q 78) 19 (cdx a b x k l d e)) (T 78))) (N + 78) (cell N 78 (jup (jup (hxy S p q 78) 19 (cdx a b x k l d e)) 20 (cdy a b y k l d e)) (T 78))) (hxy S (cdx a b x k l d e) (cdy a b y k l d e)) T := by
      rw [j_ss]
      have := H.put (k := 78) (by omega) (jup (jup (hxy S p q 78) 19 (cdx a b x k l d e)) 20 (cdy a b y k l d e)) rfl
      rw [show sup (hxy S p q) 78 (jup (jup (hxy S p q 78) 19 (cdx a b x k l d e)) 20 (cdy a b y k l d e)) = hxy (hxy S p q) (cdx a b x k l d e) (cdy a b y k l d e) from rfl, hxy_hxy] at this
      exact this
    rcases F with ⟨f1, F1⟩ | ⟨f0, F0⟩
    · subst f1
      obtain ⟨fl', p', q', h', z12, z13, w1, w2, w3, w4⟩ := ih (e + 1) 0 _ _ _ (some (.int (Int32.ofInt (cdx a b x k l d e)))) (some (.int (Int32.ofInt (cdy a b y k l d e)))) hset (by omega) (by omega) (FI_first (p := p) (q := q) (Or.inl ⟨rfl, F1⟩) Qs)
      refine ⟨fl', p', q', h', z12, z13, ?_, w2, w3, w4⟩
      rw [← w1, step]
      simp (disch := omega) only [↓reduceIte, S0, S1, J_lt, J_le, J_eq, J_ldI, J_ldI3, J_ldB, J_ldL, J_ldR, J_stI, J_stB, J_stL, J_dv, j_gne, C0, CM, CP, CR, CJ, CS, CL, and_self, and_true, true_and, and_false, false_and, or_true, true_or, or_false, false_or, not_true_eq_false, not_false_eq_true, Option.map_some, J_ltT, J_ltF, J_leT, J_leF, J_eqT, J_eqF, J_ntT, J_ntF, E_Mod_findHeart hW, H.get, en1]
    · subst f0
      have pb : p * p + q * q < 3600 := by
        obtain ⟨⟨d1, e1, P1, p1, p2⟩, -⟩ := F0
        rw [p1, p2]
        unfold PD at P1
        exact (cd_far (by omega) (by rw [en, ← eu]; exact ⟨hu.1, hu.2⟩) (by rw [en, ← ev]; exact ⟨hv.1, hv.2⟩) (by omega) (by omega)).2.2
      have pr := ds_b (x := p) (y := q) (m := 60) (by omega) (by omega)
      have bf := q_isBefore hW H (x := cdx a b x k l d e) (y := cdy a b y k l d e) (u := p) (v := q) hi (by rw [hxy_ne _ _ _ (by omega)]; exact ea) (by rw [hxy_ne _ _ _ (by omega)]; exact eb) (by rw [hxy_ne _ _ _ (by omega)]; exact es) ha hb hs far.2.2 pb
      by_cases lt : ky a b s (cdx a b x k l d e) (cdy a b y k l d e) < ky a b s p q
      · rw [if_pos lt] at bf
        obtain ⟨fl', p', q', h', z12, z13, w1, w2, w3, w4⟩ := ih (e + 1) 0 _ _ _ (some (.int (Int32.ofInt (cdx a b x k l d e)))) (some (.int (Int32.ofInt (cdy a b y k l d e)))) hset (by omega) (by omega) (FI_take (Or.inr ⟨rfl, F0⟩) Qs lt)
        refine ⟨fl', p', q', h', z12, z13, ?_, w2, w3, w4⟩
        rw [← w1, step]
        simp (disch := omega) only [↓reduceIte, S0, S1, J_lt, J_le, J_eq, J_ldI, J_ldI3, J_ldB, J_ldL, J_ldR, J_stI, J_stB, J_stL, J_dv, j_gne, C0, CM, CP, CR, CJ, CS, CL, and_self, and_true, true_and, and_false, false_and, or_true, true_or, or_false, false_or, not_true_eq_false, not_false_eq_true, Option.map_some, J_ltT, J_ltF, J_leT, J_leF, J_eqT, J_eqF, J_ntT, J_ntF, E_Mod_findHeart hW, H.get, en1, hxy_x, hxy_y, bf]
      · rw [if_neg lt] at bf
        obtain ⟨fl', p', q', h', z12, z13, w1, w2, w3, w4⟩ := ih (e + 1) 0 p q h (some (.int (Int32.ofInt (cdx a b x k l d e)))) (some (.int (Int32.ofInt (cdy a b y k l d e)))) H (by omega) (by omega) (FI_leave (Or.inr ⟨rfl, F0⟩) Qs lt)
        refine ⟨fl', p', q', h', z12, z13, ?_, w2, w3, w4⟩
        rw [← w1, step]
        simp (disch := omega) only [↓reduceIte, S0, S1, J_lt, J_le, J_eq, J_ldI, J_ldI3, J_ldB, J_ldL, J_ldR, J_stI, J_stB, J_stL, J_dv, j_gne, C0, CM, CP, CR, CJ, CS, CL, and_self, and_true, true_and, and_false, false_and, or_true, true_or, or_false, false_or, not_true_eq_false, not_false_eq_true, Option.map_some, J_ltT, J_ltF, J_leT, J_leF, J_eqT, J_eqF, J_ntT, J_ntF, E_Mod_findHeart hW, H.get, en1, hxy_x, hxy_y, bf]
theorem q_fhOut (hW : xFix V W) {ink a b s x y k l n u v : Int} (hi : 0 ≤ ink ∧ ink < 8) (ea : S 88 ink.toNat = a) (eb : S 89 ink.toNat = b) (es : S 90 ink.toNat = s) (ha : -20 ≤ a ∧ a ≤ 20) (hb : -20 ≤ b ∧ b ≤ 20) (hs : 0 ≤ s ∧ s < 3) (en : a * a + b * b = n) (hn : 1 ≤ n ∧ n ≤ 400)
    (eu : u = a * x + b * y + n * k) (ev : v = a * y - b * x + n * l) (hu : 0 ≤ u ∧ u < n) (hv : 0 ≤ v ∧ v < n) : ∀ (r : Nat) (d fl p q : Int) (h : xH) (s11 s12 s13 : Option Value), HP N h (hxy S p q) T → -2 ≤ d → d + r = 2 → FI a b s x y k l fl p q (PD d (-2)) →
    ∃ (fl' p' q' : Int) (h' : xH), W m_Mod_findHeart (67, [some (.ref (N + 78)), some (.int (Int32.ofInt ink)), some (.int (Int32.ofInt x)), some (.int (Int32.ofInt y)), some (.int (Int32.ofInt a)), some (.int (Int32.ofInt b)), some (.int (Int32.ofInt n)), some (.int (Int32.ofInt u)), some (.int (Int32.ofInt v)), some (.int (Int32.ofInt fl)), some (.int (Int32.ofInt (u + n * d))), s11, s12, s13], []) h = some (.inl none, h') ∧ HP N h' (hxy S p' q') T ∧ h'.2 = h.2 ∧ FI a b s x y k l fl' p' q' (PD 2 (-2)) := by
  intro r
  induction r with
  | zero =>
    intro d fl p q h s11 s12 s13 H d0 d1 F
    have : d = 2 := by omega
    subst this
    refine ⟨fl, p, q, h, ?_, H, rfl, F⟩
    rw [L_Mod_findHeart_67 hW]
    simp (disch := omega) only [↓reduceIte, S0, S1, J_lt, J_le, J_eq, J_ldI, J_ldI3, J_ldB, J_ldL, J_ldR, J_stI, J_stB, J_stL, J_dv, j_gne, C0, CM, CP, CR, CJ, CS, CL, and_self, and_true, true_and, and_false, false_and, or_true, true_or, or_false, false_or, not_true_eq_false, not_false_eq_true, Option.map_some, J_ltT, J_ltF, J_leT, J_leF, J_eqT, J_eqF, J_ntT, J_ntF, E_Mod_findHeart hW]
  | succ r ih =>
    intro d fl p q h s11 s12 s13 H d0 d1 F
    have hd : -2 ≤ d ∧ d ≤ 1 := by omega
    have ld : n * d ≤ n * 1 := Int.mul_le_mul_of_nonneg_left hd.2 (by omega)
    have ld2 : n * (-2) ≤ n * d := Int.mul_le_mul_of_nonneg_left hd.1 (by omega)
    obtain ⟨fl1, p1, q1, h1, z12, z13, w1, w2, w3, w4⟩ := q_fhIn hW hi ea eb es ha hb hs en hn eu ev hu hv hd 4 (-2) fl p q h s12 s13 H (by omega) (by omega) F
    obtain ⟨fl', p', q', h', y1, y2, y3, y4⟩ := ih (d + 1) fl1 p1 q1 h1 (some (.int (Int32.ofInt (v + n * 2)))) z12 z13 w2 (by omega) (by omega) (FI_cg w4 (fun d' e' => by unfold PD; omega))
    refine ⟨fl', p', q', h', ?_, y2, y3.trans w3, y4⟩
    rw [← y1, show u + n * (d + 1) = u + n * d + n by grind]
    rw [show v + n * -2 = v - 2 * n by omega] at w1
    rw [L_Mod_findHeart_67 hW]
    simp (disch := omega) only [↓reduceIte, S0, S1, J_lt, J_le, J_eq, J_ldI, J_ldI3, J_ldB, J_ldL, J_ldR, J_stI, J_stB, J_stL, J_dv, j_gne, C0, CM, CP, CR, CJ, CS, CL, and_self, and_true, true_and, and_false, false_and, or_true, true_or, or_false, false_or, not_true_eq_false, not_false_eq_true, Option.map_some, J_ltT, J_ltF, J_leT, J_leF, J_eqT, J_eqF, J_ntT, J_ntF, E_Mod_findHeart hW, w1]
/-- what findHeart leaves -/
theorem q_findHeart (hW : xFix V W) {h : xH} (H : HP N h S T) {ink a b s x y : Int} (hi : 0 ≤ ink ∧ ink < 8) (ea : S 88 ink.toNat = a) (eb : S 89 ink.toNat = b) (es : S 90 ink.toNat = s) (ha : -20 ≤ a ∧ a ≤ 20) (hb : -20 ≤ b ∧ b ≤ 20) (hs : 0 ≤ s ∧ s < 3) (hn : 1 ≤ a * a + b * b ∧ a * a + b * b ≤ 400) (hx : -1000 ≤ x ∧ x ≤ 1000) (hy : -1000 ≤ y ∧ y ≤ 1000) :
    ∃ (p q : Int) (h' : xH), W m_Mod_findHeart (0, [some (.ref (N + 78)), some (.int (Int32.ofInt ink)), some (.int (Int32.ofInt x)), some (.int (Int32.ofInt y)), none, none, none, none, none, none, none, none, none, none], []) h = some (.inl none, h') ∧ HP N h' (hxy S p q) T ∧ h'.2 = h.2 ∧ hrt a b s p q ∧ sc a b x y p q := by
  have m1 := mulb ha hx
  have m2 := mulb hb hy
  have m3 := mulb ha hy
  have m4 := mulb hb hx
  obtain ⟨n, en⟩ : ∃ n, a * a + b * b = n := ⟨_, rfl⟩
  have u1 := Int.mul_ediv_add_emod (a * x + b * y) n
  have u2 := Int.emod_nonneg (a * x + b * y) (b := n) (by omega)
  have u3 := Int.emod_lt_of_pos (a * x + b * y) (b := n) (by omega)
  have v1 := Int.mul_ediv_add_emod (a * y - b * x) n
  have v2 := Int.emod_nonneg (a * y - b * x) (b := n) (by omega)
  have v3 := Int.emod_lt_of_pos (a * y - b * x) (b := n) (by omega)
  have r1 := q_rest (h := h) hW (v := a * x + b * y) (n := n) (by omega) (by omega)
  have r2 := q_rest (h := h) hW (v := a * y - b * x) (n := n) (by omega) (by omega)
  have eu : (a * x + b * y) % n = a * x + b * y + n * -((a * x + b * y) / n) := by rw [Int.mul_neg]; omega
  have ev : (a * y - b * x) % n = a * y - b * x + n * -((a * y - b * x) / n) := by rw [Int.mul_neg]; omega
  have sz := q_sizeOf hW H hi ea eb
  rw [en] at sz
  obtain ⟨fl', p', q', h', y1, y2, y3, y4⟩ := q_fhOut (S := S) (T := T) (N := N) hW hi ea eb es ha hb hs en (by omega) eu ev ⟨u2, u3⟩ ⟨v2, v3⟩ 4 (-2) 1 (S 78 19) (S 78 20) h none none none (by rw [hxy_id]; exact H) (by omega) (by omega) (Or.inl ⟨rfl, fun d e c => by unfold PD at c; omega⟩)
  refine ⟨p', q', h', ?_, y2, y3, ?_⟩
  · rw [← y1, show (a * x + b * y) % n + n * -2 = (a * x + b * y) % n - 2 * n by omega]
    simp (disch := omega) only [↓reduceIte, S0, S1, J_lt, J_le, J_eq, J_ldI, J_ldI3, J_ldB, J_ldL, J_ldR, J_stI, J_stB, J_stL, J_dv, j_gne, C0, CM, CP, CR, CJ, CS, CL, and_self, and_true, true_and, and_false, false_and, or_true, true_or, or_false, false_or, not_true_eq_false, not_false_eq_true, Option.map_some, J_ltT, J_ltF, J_leT, J_leF, J_eqT, J_eqF, J_ntT, J_ntF, E_Mod_findHeart hW, H.get, ea, eb, sz, r1, r2]
  · rcases y4 with ⟨-, c⟩ | ⟨-, ⟨d, e, c1, c2, c3⟩, c4⟩
    · exact absurd (show PD 2 (-2) 0 0 by unfold PD; omega) (c 0 0)
    · unfold PD at c1
      have far := fun d e => cd_far (a := a) (b := b) (x := x) (y := y) (k := -((a * x + b * y) / n)) (l := -((a * y - b * x) / n)) (d := d) (e := e) hn (by rw [en, ← eu]; exact ⟨u2, u3⟩) (by rw [en, ← ev]; exact ⟨v2, v3⟩)
      have f1 := far d e (by omega) (by omega)
      refine ⟨?_, ⟨-((a * x + b * y) / n) + d, -((a * y - b * x) / n) + e, c2, c3⟩⟩
      rw [c2, c3]
      refine least_hrt (k := -((a * x + b * y) / n) + d) (l := -((a * y - b * x) / n) + e) hn f1.1 f1.2.1 (fun k' l' b1 b2 => ?_)
      have rng : ∀ t z q : Int, (0 ≤ t + n * q ∧ t + n * q < n) → (-2 * n ≤ t + n * z ∧ t + n * z < 2 * n) → -2 ≤ z - q ∧ z - q ≤ 1 := by
        intro t z q g1 g2
        have e1 : n * (z - q) = n * z - n * q := Int.mul_sub _ _ _
        constructor
        · apply Int.not_lt.mp
          intro c
          have := Int.mul_le_mul_of_nonneg_left (a := z - q) (b := -3) (c := n) (by omega) (by omega)
          omega
        · apply Int.not_lt.mp
          intro c
          have := Int.mul_le_mul_of_nonneg_left (a := 2) (b := z - q) (c := n) (by omega) (by omega)
          omega
      rw [en] at b1 b2
      have k1 := rng _ k' (-((a * x + b * y) / n)) (by rw [← eu]; exact ⟨u2, u3⟩) b1
      have l1 := rng _ l' (-((a * y - b * x) / n)) (by rw [← ev]; exact ⟨v2, v3⟩) b2
      have := c4 (k' - -((a * x + b * y) / n)) (l' - -((a * y - b * x) / n)) (by unfold PD; omega)
      rw [c2, c3] at this
      unfold cdx cdy at this
      rw [show -((a * x + b * y) / n) + (k' - -((a * x + b * y) / n)) = k' by omega, show -((a * y - b * x) / n) + (l' - -((a * y - b * x) / n)) = l' by omega] at this
      exact this
end QGS
