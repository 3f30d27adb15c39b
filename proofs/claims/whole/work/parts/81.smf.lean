/-! the reference's list of hearts -/
def HL (a b s : Int) (X Y : Nat → Int) (m : Nat) : Prop := (∀ k, k < m → hrt a b s (X k) (Y k)) ∧ ∀ j k, j < k → k < m → ky a b s (X j) (Y j) < ky a b s (X k) (Y k)
def hN (X Y : Nat → Int) (u v : Int) : Nat → Int
  | 0 => -1
  | k + 1 => if X k = u ∧ Y k = v then k else hN X Y u v k
theorem hN_none {X Y : Nat → Int} {u v : Int} {m : Nat} (h : ∀ k, k < m → ¬ (X k = u ∧ Y k = v)) : hN X Y u v m = -1 := by
  induction m with
  | zero => rfl
  | succ m ih => simp only [hN]; rw [if_neg (h m (by omega)), ih (fun k hk => h k (by omega))]
theorem hN_some {X Y : Nat → Int} {u v : Int} {m : Nat} (h : 0 ≤ hN X Y u v m) : hN X Y u v m < m ∧ X (hN X Y u v m).toNat = u ∧ Y (hN X Y u v m).toNat = v := by
  induction m with
  | zero => simp only [hN] at h; omega
  | succ m ih =>
    simp only [hN] at h ⊢
    split
    · rename_i e
      rw [Int.toNat_natCast]
      exact ⟨by omega, e.1, e.2⟩
    · rename_i e
      rw [if_neg e] at h
      obtain ⟨h1, h2, h3⟩ := ih h
      exact ⟨by omega, h2, h3⟩
theorem hN_b (X Y : Nat → Int) (u v : Int) (m : Nat) : -1 ≤ hN X Y u v m ∧ hN X Y u v m < m := by
  induction m with
  | zero => exact ⟨by simp [hN], by simp [hN]⟩
  | succ m ih => simp only [hN]; split <;> omega
theorem hN_ne {X Y : Nat → Int} {u v : Int} {m : Nat} (h : hN X Y u v m < 0) : ∀ k, k < m → ¬ (X k = u ∧ Y k = v) := by
  induction m with
  | zero => intro k hk; omega
  | succ m ih =>
    simp only [hN] at h
    split at h
    · omega
    · rename_i e
      intro k hk
      rcases Nat.lt_or_ge k m with c | c
      · exact ih h k c
      · rw [show k = m by omega]; exact e
theorem hrt_far {a b s x y : Int} (hn : a * a + b * b ≤ 400) (h : hrt a b s x y) : (-20 ≤ x ∧ x ≤ 20) ∧ (-20 ≤ y ∧ y ≤ 20) ∧ x * x + y * y ≤ 400 := by
  have h1 := h.1
  have := ds_b (x := x) (y := y) (m := 20) (by omega) (by omega)
  exact ⟨this.1, this.2, by omega⟩
theorem HL_at {a b s u v : Int} {X Y : Nat → Int} {m k : Nat} (h : HL a b s X Y m) (hk : k < m) (e : X k = u ∧ Y k = v) : hN X Y u v m = k := by
  have n0 : 0 ≤ hN X Y u v m := by
    apply Int.not_lt.mp
    intro c
    exact hN_ne c k hk e
  obtain ⟨h1, h2, h3⟩ := hN_some n0
  rcases Nat.lt_trichotomy (hN X Y u v m).toNat k with c | c | c
  · have := h.2 _ _ c hk
    rw [h2, h3, e.1, e.2] at this; omega
  · omega
  · have := h.2 _ _ c (by omega)
    rw [h2, h3, e.1, e.2] at this; omega
/-- the new heart is put in -/
theorem HL_ins {a b s u v : Int} {X Y X' Y' : Nat → Int} {m k : Nat} (h : HL a b s X Y m) (hh : hrt a b s u v) (hk : k ≤ m) (h1 : ∀ j, j < k → ky a b s (X j) (Y j) < ky a b s u v) (h2 : ∀ j, k ≤ j → j < m → ky a b s u v < ky a b s (X j) (Y j))
    (e1 : ∀ j, j < k → X' j = X j ∧ Y' j = Y j) (e2 : X' k = u ∧ Y' k = v) (e3 : ∀ j, k ≤ j → j < m → X' (j + 1) = X j ∧ Y' (j + 1) = Y j) : HL a b s X' Y' (m + 1) ∧ (∀ j, j < m → ∃ i, i < m + 1 ∧ X' i = X j ∧ Y' i = Y j) ∧ ∃ i, i < m + 1 ∧ X' i = u ∧ Y' i = v := by
  have at' : ∀ i, i < m + 1 → (i < k ∧ X' i = X i ∧ Y' i = Y i) ∨ (i = k ∧ X' i = u ∧ Y' i = v) ∨ ∃ j, i = j + 1 ∧ k ≤ j ∧ j < m ∧ X' i = X j ∧ Y' i = Y j := by
    intro i hi
    rcases Nat.lt_trichotomy i k with c | c | c
    · exact Or.inl ⟨c, e1 i c⟩
    · subst c; exact Or.inr (Or.inl ⟨rfl, e2⟩)
    · refine Or.inr (Or.inr ⟨i - 1, by omega, by omega, by omega, ?_⟩)
      have := e3 (i - 1) (by omega) (by omega)
      rw [show i - 1 + 1 = i by omega] at this
      exact this
  refine ⟨⟨fun i hi => ?_, fun i i' l1 l2 => ?_⟩, fun j hj => ?_, k, by omega, e2⟩
  · rcases at' i hi with ⟨c, q1, q2⟩ | ⟨c, q1, q2⟩ | ⟨j, c, c1, c2, q1, q2⟩
    · rw [q1, q2]; exact h.1 i (by omega)
    · rw [q1, q2]; exact hh
    · rw [q1, q2]; exact h.1 j c2
  · rcases at' i (by omega) with ⟨c, q1, q2⟩ | ⟨c, q1, q2⟩ | ⟨j, c, c1, c2, q1, q2⟩ <;> rcases at' i' l2 with ⟨d, r1, r2⟩ | ⟨d, r1, r2⟩ | ⟨j', d, d1, d2, r1, r2⟩ <;> rw [q1, q2, r1, r2]
    · exact h.2 _ _ l1 (by omega)
    · exact h1 i c
    · exact h.2 _ _ (by omega) d2
    · omega
    · omega
    · exact h2 _ d1 d2
    · omega
    · omega
    · exact h.2 _ _ (by omega) d2
  · rcases Nat.lt_or_ge j k with c | c
    · exact ⟨j, by omega, e1 j c⟩
    · exact ⟨j + 1, by omega, e3 j c hj⟩
theorem SCR_all {a b s g t u v : Int} {R G : Nat → Int} (hn : a * a + b * b ≤ 400) (h : SCR a b s g t R G) (hh : hrt a b s u v) : R (cix (a * a + b * b) g t u v).toNat < a * a + b * b ∧ 0 ≤ R (cix (a * a + b * b) g t u v).toNat ∧ px (G (R (cix (a * a + b * b) g t u v).toNat).toNat) = u ∧ py (G (R (cix (a * a + b * b) g t u v).toNat).toNat) = v := by
  obtain ⟨-, -, h3, -, h5⟩ := h
  obtain ⟨⟨r1, r2⟩, r3⟩ := h5 u v
  obtain ⟨-, q⟩ := h3 (R (cix (a * a + b * b) g t u v).toNat).toNat (by omega)
  have := hrt_uniq hn hh q r3
  exact ⟨r2, r1, this.1.symm, this.2.symm⟩
theorem HL_le {a b s g t : Int} {R G X Y : Nat → Int} {m : Nat} (hn : a * a + b * b ≤ 400) (h : SCR a b s g t R G) (l : HL a b s X Y m) : (m : Int) ≤ a * a + b * b := by
  have := inc_card (f := fun k => ky a b s (X k) (Y k)) (g := fun k => ky a b s (px (G k)) (py (G k))) (m := m) (n := (a * a + b * b).toNat) l.2 (fun i j h1 h2 => h.2.2.2.1 i j h1 (by omega)) (fun k hk => by
    obtain ⟨q1, q2, q3, q4⟩ := SCR_all hn h (l.1 k hk)
    exact ⟨(R (cix (a * a + b * b) g t (X k) (Y k)).toNat).toNat, by omega, by simp only [q3, q4]⟩)
  have := sq_nn a
  have := sq_nn b
  omega
theorem HL_eq {a b s g t : Int} {R G X Y : Nat → Int} {m : Nat} (hn : a * a + b * b ≤ 400) (h : SCR a b s g t R G) (l : HL a b s X Y m) (al : ∀ x y, hrt a b s x y → ∃ k, k < m ∧ X k = x ∧ Y k = y) : (m : Int) = a * a + b * b ∧ ∀ k, k < m → X k = px (G k) ∧ Y k = py (G k) := by
  have := sq_nn a
  have := sq_nn b
  have := inc_eq (f := fun k => ky a b s (X k) (Y k)) (g := fun k => ky a b s (px (G k)) (py (G k))) (m := m) (n := (a * a + b * b).toNat) l.2 (fun i j h1 h2 => h.2.2.2.1 i j h1 (by omega)) (fun k hk => by
    obtain ⟨q1, q2, q3, q4⟩ := SCR_all hn h (l.1 k hk)
    exact ⟨(R (cix (a * a + b * b) g t (X k) (Y k)).toNat).toNat, by omega, by simp only [q3, q4]⟩) (fun k hk => by
    obtain ⟨k', k1, k2, k3⟩ := al _ _ (h.2.2.1 k (by omega)).2
    exact ⟨k', k1, by simp only [k2, k3]⟩)
  refine ⟨by omega, fun k hk => ?_⟩
  have e := this.2 k hk
  have r1 := hrt_far hn (l.1 k hk)
  have r2 := hrt_far hn (h.2.2.1 k (by omega)).2
  exact ky_inj (a := a) (b := b) (s := s) (by omega) (by omega) e
/-- the rank of a place on both sides -/
theorem rk_eq {a b s g t x y u v : Int} {R G X Y : Nat → Int} {m : Nat} (hn : a * a + b * b ≤ 400) (h : SCR a b s g t R G) (l : HL a b s X Y m) (al : ∀ x y, hrt a b s x y → ∃ k, k < m ∧ X k = x ∧ Y k = y) (hh : hrt a b s u v) (c : sc a b x y u v) : hN X Y u v m = R (cix (a * a + b * b) g t x y).toNat := by
  obtain ⟨e1, e2⟩ := HL_eq hn h l al
  obtain ⟨⟨r1, r2⟩, r3⟩ := h.2.2.2.2 x y
  obtain ⟨-, q⟩ := h.2.2.1 (R (cix (a * a + b * b) g t x y).toNat).toNat (by omega)
  have w := hrt_uniq hn hh q (sc_trans (sc_symm c) r3)
  have := HL_at l (k := (R (cix (a * a + b * b) g t x y).toNat).toNat) (u := u) (v := v) (by omega) (by
    have := e2 (R (cix (a * a + b * b) g t x y).toNat).toNat (by omega)
    rw [this.1, this.2]; exact ⟨w.1.symm, w.2.symm⟩)
  rw [this]; omega
/-- the square of the reference holds a place of each -/
theorem sq_all {a b s : Int} {X Y : Nat → Int} {m : Nat} (hn : 1 ≤ a * a + b * b ∧ a * a + b * b ≤ 400) (l : HL a b s X Y m) (al : ∀ x y : Int, (-15 ≤ x ∧ x ≤ 15) → (-15 ≤ y ∧ y ≤ 15) → ∃ k, k < m ∧ sc a b x y (X k) (Y k)) : ∀ x y, hrt a b s x y → ∃ k, k < m ∧ X k = x ∧ Y k = y := by
  intro x y hh
  obtain ⟨k0, l0, n1, n2⟩ := near_c x y (a := a) (b := b) (by omega)
  have d0 := half_d (by omega) (nrm_sc a b x y k0 l0) n1 n2
  have bd := ds_b (x := x + a * k0 - b * l0) (y := y + b * k0 + a * l0) (m := 15) (by omega) (by omega)
  obtain ⟨k, k1, k2⟩ := al _ _ bd.1 bd.2
  have c : sc a b x y (X k) (Y k) := sc_trans ⟨k0, l0, rfl, rfl⟩ k2
  have := hrt_uniq hn.2 hh (l.1 k k1) c
  exact ⟨k, k1, this.1.symm, this.2.symm⟩
