/-! the greatest divisor, and what it is a sum of -/
def gdv (a b : Int) : Nat → Int
  | 0 => 0
  | d + 1 => if (1 : Int) < ((d + 1 : Nat) : Int) ∧ (a % ((d + 1 : Nat) : Int) ≠ 0 ∨ b % ((d + 1 : Nat) : Int) ≠ 0) then gdv a b d else ((d + 1 : Nat) : Int)
def bzc (a b : Int) : Bool := (a == 0 && b == 0) || (let g := gdv a b 20; decide (0 < g) && decide (g ≤ 20) && a % g == 0 && b % g == 0 && (List.range 41).any fun k => let s := (k : Int) - 20; if b == 0 then s * a == g else (g - s * a) % b == 0)
theorem bz_all : ((List.range 41).all fun i => (List.range 41).all fun j => bzc ((i : Int) - 20) ((j : Int) - 20)) = true := by decide +kernel
theorem bz_gd {a b : Int} (ha : -20 ≤ a ∧ a ≤ 20) (hb : -20 ≤ b ∧ b ≤ 20) (hn : 0 < a * a + b * b) : (0 < gdv a b 20 ∧ gdv a b 20 ≤ 20) ∧ gdv a b 20 ∣ a ∧ gdv a b 20 ∣ b ∧ ∃ z w : Int, z * a + w * b = gdv a b 20 := by
  have h0 := bz_all
  rw [List.all_eq_true] at h0
  have h1 := h0 (a + 20).toNat (List.mem_range.mpr (by omega))
  rw [List.all_eq_true] at h1
  have h2 := h1 (b + 20).toNat (List.mem_range.mpr (by omega))
  rw [show (((a + 20).toNat : Int) - 20) = a by omega, show (((b + 20).toNat : Int) - 20) = b by omega] at h2
  unfold bzc at h2
  simp only [Bool.or_eq_true, Bool.and_eq_true, beq_iff_eq, decide_eq_true_eq, List.any_eq_true] at h2
  rcases h2 with ⟨e1, e2⟩ | ⟨⟨⟨⟨g0, g20⟩, g1⟩, g2⟩, k, -, hk⟩
  · subst e1; subst e2; simp at hn
  · refine ⟨⟨g0, g20⟩, Int.dvd_of_emod_eq_zero g1, Int.dvd_of_emod_eq_zero g2, ?_⟩
    by_cases eb : b = 0
    · rw [if_pos eb] at hk
      exact ⟨(k : Int) - 20, 0, by rw [beq_iff_eq] at hk; omega⟩
    · rw [if_neg eb, beq_iff_eq] at hk
      obtain ⟨w, hw⟩ := Int.dvd_of_emod_eq_zero hk
      exact ⟨(k : Int) - 20, w, by grind⟩
/-- some place of the row of the greatest divisor is of the lattice -/
theorem sh_ex {a b g z w : Int} (hn : 0 < a * a + b * b) (bz : z * a + w * b = g) : ∃ t : Int, (0 ≤ t ∧ t < a * a + b * b) ∧ (a * a + b * b ∣ a * t + b * g) ∧ (a * a + b * b ∣ a * g - b * t) := by
  refine ⟨(w * a - z * b) % (a * a + b * b), ⟨Int.emod_nonneg _ (by omega), Int.emod_lt_of_pos _ hn⟩, ?_, ?_⟩
  · have e := Int.mul_ediv_add_emod (w * a - z * b) (a * a + b * b)
    generalize (w * a - z * b) / (a * a + b * b) = q at *
    generalize (w * a - z * b) % (a * a + b * b) = r at *
    refine ⟨w - a * q, ?_⟩
    subst bz
    have : r = w * a - z * b - (a * a + b * b) * q := by omega
    subst this
    grind
  · have e := Int.mul_ediv_add_emod (w * a - z * b) (a * a + b * b)
    generalize (w * a - z * b) / (a * a + b * b) = q at *
    generalize (w * a - z * b) % (a * a + b * b) = r at *
    refine ⟨z + b * q, ?_⟩
    subst bz
    have : r = w * a - z * b - (a * a + b * b) * q := by omega
    subst this
    grind
/-! rising sequences -/
theorem inc_ge {f g : Nat → Int} {m n : Nat} (hf : ∀ i j, i < j → j < m → f i < f j) (hg : ∀ i j, i < j → j < n → g i < g j) (h : ∀ k, k < m → ∃ r, r < n ∧ f k = g r) : ∀ k, k < m → ∃ r, r < n ∧ f k = g r ∧ k ≤ r := by
  intro k
  induction k with
  | zero => intro hk; obtain ⟨r, h1, h2⟩ := h 0 hk; exact ⟨r, h1, h2, Nat.zero_le _⟩
  | succ k ih =>
    intro hk
    obtain ⟨r, h1, h2, h3⟩ := ih (by omega)
    obtain ⟨r', g1, g2⟩ := h (k + 1) hk
    refine ⟨r', g1, g2, ?_⟩
    have l := hf k (k + 1) (by omega) hk
    apply Nat.not_lt.mp
    intro c
    have : g r' ≤ g r := by
      rcases Nat.lt_or_ge r' r with d | d
      · exact Int.le_of_lt (hg r' r d h1)
      · have : r = r' := by omega
        rw [this]; exact Int.le_refl _
    omega
theorem inc_card {f g : Nat → Int} {m n : Nat} (hf : ∀ i j, i < j → j < m → f i < f j) (hg : ∀ i j, i < j → j < n → g i < g j) (h : ∀ k, k < m → ∃ r, r < n ∧ f k = g r) : m ≤ n := by
  cases m with
  | zero => omega
  | succ m => obtain ⟨r, h1, -, h3⟩ := inc_ge hf hg h m (by omega); omega
theorem inc_eq {f g : Nat → Int} {m n : Nat} (hf : ∀ i j, i < j → j < m → f i < f j) (hg : ∀ i j, i < j → j < n → g i < g j) (h : ∀ k, k < m → ∃ r, r < n ∧ f k = g r) (h' : ∀ k, k < n → ∃ r, r < m ∧ g k = f r) : m = n ∧ ∀ k, k < m → f k = g k := by
  have e : m = n := Nat.le_antisymm (inc_card hf hg h) (inc_card hg hf h')
  refine ⟨e, fun k hk => ?_⟩
  obtain ⟨r, h1, h2, h3⟩ := inc_ge hf hg h k hk
  rcases Nat.lt_or_ge k r with d | d
  · obtain ⟨r', g1, g2, g3⟩ := inc_ge hg hf h' k (by omega)
    have := hg k r d h1
    have : f k ≤ f r' := by
      rcases Nat.lt_or_ge k r' with d2 | d2
      · exact Int.le_of_lt (hf k r' d2 g1)
      · rw [show r' = k by omega]; exact Int.le_refl _
    omega
  · rw [h2, show r = k by omega]
/-! places told off by their forms -/
def cnE (f : Nat → Int) (c : Int) : Nat → Int
  | 0 => 0
  | k + 1 => cnE f c k + if f k = c then 1 else 0
def cnL (f : Nat → Int) (c : Int) : Nat → Int
  | 0 => 0
  | k + 1 => cnL f c k + if f k < c then 1 else 0
theorem cnE_b (f : Nat → Int) (c : Int) (k : Nat) : 0 ≤ cnE f c k ∧ cnE f c k ≤ k := by
  induction k with
  | zero => exact ⟨Int.le_refl _, by simp [cnE]⟩
  | succ k ih => simp only [cnE]; split <;> omega
theorem cnL_b (f : Nat → Int) (c : Int) (k : Nat) : 0 ≤ cnL f c k ∧ cnL f c k ≤ k := by
  induction k with
  | zero => exact ⟨Int.le_refl _, by simp [cnL]⟩
  | succ k ih => simp only [cnL]; split <;> omega
theorem cnL_s (f : Nat → Int) (c : Int) (k : Nat) : cnL f (c + 1) k = cnL f c k + cnE f c k := by
  induction k with
  | zero => rfl
  | succ k ih => simp only [cnL, cnE, ih]; split <;> split <;> split <;> omega
theorem cnL_m (f : Nat → Int) {c d : Int} (h : c ≤ d) (k : Nat) : cnL f c k ≤ cnL f d k := by
  induction k with
  | zero => exact Int.le_refl _
  | succ k ih => simp only [cnL]; split <;> split <;> omega
theorem cnE_m (f : Nat → Int) (c : Int) {k m : Nat} (h : k ≤ m) : cnE f c k ≤ cnE f c m := by
  induction m with
  | zero => rw [show k = 0 by omega]; exact Int.le_refl _
  | succ m ih =>
    rcases Nat.lt_or_ge m k with d | d
    · rw [show k = m + 1 by omega]; exact Int.le_refl _
    · have := ih d
      simp only [cnE]; split <;> omega
theorem cnE_lt (f : Nat → Int) {k m : Nat} (h : k < m) : cnE f (f k) k < cnE f (f k) m := by
  have := cnE_m f (f k) (k := k + 1) (m := m) h
  simp only [cnE] at this
  rw [if_pos trivial] at this
  omega
theorem cnE_cg {f g : Nat → Int} {c : Int} {k : Nat} (h : ∀ i, i < k → f i = g i) : cnE f c k = cnE g c k := by
  induction k with
  | zero => rfl
  | succ k ih => simp only [cnE]; rw [ih (fun i hi => h i (by omega)), h k (by omega)]
def ps (f : Nat → Int) (w k : Nat) : Int := cnL f (f k) w + cnE f (f k) k
theorem ps_lt {f : Nat → Int} {w k m : Nat} (hk : k < w) (_ : m < w) (h : f k < f m ∨ (f k = f m ∧ k < m)) : ps f w k < ps f w m := by
  unfold ps
  rcases h with h | ⟨h, h2⟩
  · have h1 := cnL_m f (c := f k + 1) (d := f m) (by omega) w
    rw [cnL_s] at h1
    have h2 := cnE_lt f hk
    have h3 := (cnE_b f (f m) m).1
    omega
  · have := cnE_lt f h2
    rw [← h]; omega
theorem ps_b {f : Nat → Int} {w k : Nat} (hk : k < w) : 0 ≤ ps f w k ∧ ps f w k < w := by
  unfold ps
  have h1 := (cnL_b f (f k) w).1
  have h2 := (cnE_b f (f k) k).1
  have h3 := (cnL_b f (f k + 1) w).2
  rw [cnL_s] at h3
  have := cnE_lt f hk
  omega
theorem ps_inj {f : Nat → Int} {w k m : Nat} (hk : k < w) (hm : m < w) (h : ps f w k = ps f w m) : k = m := by
  rcases Int.lt_trichotomy (f k) (f m) with c | c | c
  · have := ps_lt hk hm (Or.inl c); omega
  · rcases Nat.lt_trichotomy k m with d | d | d
    · have := ps_lt hk hm (Or.inr ⟨c, d⟩); omega
    · exact d
    · have := ps_lt hm hk (Or.inr ⟨c.symm, d⟩); omega
  · have := ps_lt hm hk (Or.inl c); omega
theorem ivt {g : Nat → Int} {q : Int} : ∀ m : Nat, g 0 ≤ q → q < g m → ∃ k, k < m ∧ g k ≤ q ∧ q < g (k + 1)
  | 0, h0, h1 => absurd h1 (by omega)
  | m + 1, h0, h1 => by
    rcases Int.lt_or_le q (g m) with c | c
    · obtain ⟨k, a1, a2⟩ := ivt m h0 c
      exact ⟨k, by omega, a2⟩
    · exact ⟨m, by omega, c, h1⟩
theorem ps_sur {f : Nat → Int} {w : Nat} {M : Nat} (hf : ∀ k, k < w → 0 ≤ f k ∧ f k < M) {q : Int} (h0 : 0 ≤ q) (hq : q < w) : ∃ k, k < w ∧ ps f w k = q := by
  have a0 : ∀ k, k ≤ w → cnL f 0 k = 0 := by
    intro k
    induction k with
    | zero => intro _; rfl
    | succ k ih => intro hk; simp only [cnL]; rw [ih (by omega), if_neg (by have := hf k (by omega); omega)]; rfl
  have a1 : ∀ k, k ≤ w → cnL f M k = k := by
    intro k
    induction k with
    | zero => intro _; rfl
    | succ k ih => intro hk; simp only [cnL]; rw [ih (by omega), if_pos (by have := hf k (by omega); omega)]; omega
  obtain ⟨c, c1, c2, c3⟩ := ivt (g := fun c => cnL f (c : Int) w) (q := q) M (by have := a0 w (Nat.le_refl _); simp only [Int.natCast_zero] at *; omega) (by have := a1 w (Nat.le_refl _); show q < cnL f (M : Int) w; omega)
  simp only [Int.natCast_add, Int.natCast_one] at c3
  rw [cnL_s] at c3
  obtain ⟨k, k1, k2, k3⟩ := ivt (g := fun k => cnE f c k) (q := q - cnL f c w) w (by simp only [cnE]; omega) (by show q - cnL f c w < cnE f c w; omega)
  simp only [cnE] at k2 k3
  have e : f k = c := by
    apply Decidable.byContradiction
    intro ne
    rw [if_neg ne] at k3
    omega
  rw [if_pos e] at k3
  exact ⟨k, k1, by unfold ps; rw [e]; omega⟩
theorem ps_ord {f : Nat → Int} {w k m : Nat} (hk : k < w) (hm : m < w) (h : ps f w k < ps f w m) : f k < f m ∨ (f k = f m ∧ k < m) := by
  rcases Int.lt_trichotomy (f k) (f m) with c | c | c
  · exact Or.inl c
  · rcases Nat.lt_trichotomy k m with d | d | d
    · exact Or.inr ⟨c, d⟩
    · subst d; omega
    · have := ps_lt hm hk (Or.inr ⟨c.symm, d⟩); omega
  · have := ps_lt hm hk (Or.inl c); omega
