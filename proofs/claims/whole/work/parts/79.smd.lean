/-! ranks are given in the order of the places -/
def px (p : Int) : Int := p % 41 - 20
def py (p : Int) : Int := p / 41 - 20
def pc (x y : Int) : Int := (y + 20) * 41 + (x + 20)
theorem pc_xy {x y : Int} (hx : -20 ≤ x ∧ x ≤ 20) (hy : -20 ≤ y ∧ y ≤ 20) : px (pc x y) = x ∧ py (pc x y) = y ∧ 0 ≤ pc x y ∧ pc x y < 1681 := by
  unfold px py pc; omega
theorem px_b {p : Int} (h : 0 ≤ p ∧ p < 1681) : (-20 ≤ px p ∧ px p ≤ 20) ∧ (-20 ≤ py p ∧ py p ≤ 20) ∧ pc (px p) (py p) = p := by
  unfold px py pc; omega
def cnN (R : Nat → Int) : Nat → Nat
  | 0 => 0
  | n + 1 => cnN R n + if R n = -1 then 0 else 1
theorem cnN_le (R : Nat → Int) (n : Nat) : cnN R n ≤ n := by
  induction n with
  | zero => exact Nat.le_refl _
  | succ n ih => simp only [cnN]; split <;> omega
theorem cnN_all {R : Nat → Int} {n : Nat} (h : ∀ q, q < n → R q ≠ -1) : cnN R n = n := by
  induction n with
  | zero => rfl
  | succ n ih => simp only [cnN]; rw [ih (fun q hq => h q (by omega)), if_neg (h n (by omega))]
theorem cnN_full {R : Nat → Int} {n : Nat} (h : cnN R n = n) : ∀ q, q < n → R q ≠ -1 := by
  induction n with
  | zero => intro q hq; omega
  | succ n ih =>
    simp only [cnN] at h
    have l := cnN_le R n
    intro q hq
    by_cases e : R n = -1
    · rw [if_pos e] at h; omega
    · rw [if_neg e] at h
      rcases Nat.lt_or_ge q n with c | c
      · exact ih (by omega) q c
      · rw [show q = n by omega]; exact e
theorem cnN_up {R : Nat → Int} {n q : Nat} {v : Int} (hq : q < n) (h : R q = -1) (hv : v ≠ -1) : cnN (jup R q v) n = cnN R n + 1 := by
  induction n with
  | zero => omega
  | succ n ih =>
    simp only [cnN]
    rcases Nat.lt_or_ge q n with c | c
    · rw [ih c, jup_ne R v (show n ≠ q by omega)]; omega
    · have e : q = n := by omega
      subst e
      have : ∀ m, m ≤ q → cnN (jup R q v) m = cnN R m := by
        intro m
        induction m with
        | zero => intro _; rfl
        | succ m ih => intro hm; simp only [cnN]; rw [ih (by omega), jup_ne R v (show m ≠ q by omega)]
      rw [this q (Nat.le_refl _), jup_same, if_neg hv, if_pos h]
theorem cnN_0 {n : Nat} : cnN (fun _ => -1) n = 0 := by
  induction n with
  | zero => rfl
  | succ n ih => simp only [cnN]; rw [ih]; rfl
def RI (o : Nat → Int) (c : Nat → Nat) (n : Nat) (R G : Nat → Int) (i m : Nat) : Prop :=
  (∃ J : Nat → Nat, (∀ r, r < m → J r < i ∧ G r = o (J r) ∧ R (c (J r)) = r ∧ ∀ i', i' < J r → c i' ≠ c (J r)) ∧ (∀ r r', r < r' → r' < m → J r < J r') ∧
    ∀ q, q < n → (R q = -1 ∧ ∀ i', i' < i → c i' ≠ q) ∨ ∃ r, r < m ∧ R q = r ∧ c (J r) = q) ∧ cnN R n = m
theorem RI_0 {o : Nat → Int} {c : Nat → Nat} {n : Nat} {R G : Nat → Int} (h : ∀ q, q < n → R q = -1) : RI o c n R G 0 0 := by
  refine ⟨⟨fun _ => 0, fun r hr => by omega, fun r r' h1 h2 => by omega, fun q hq => Or.inl ⟨h q hq, fun i' hi => by omega⟩⟩, ?_⟩
  have : ∀ m, m ≤ n → cnN R m = 0 := by
    intro m
    induction m with
    | zero => intro _; rfl
    | succ m ih => intro hm; simp only [cnN]; rw [ih (by omega), if_pos (h m (by omega))]
  exact this n (Nat.le_refl _)
theorem RI_new {o : Nat → Int} {c : Nat → Nat} {n : Nat} {R G : Nat → Int} {i m : Nat} (h : RI o c n R G i m) (hc : c i < n) (e : R (c i) = -1) : RI o c n (jup R (c i) m) (jup G m (o i)) (i + 1) (m + 1) := by
  obtain ⟨⟨J, h1, h2, h3⟩, h4⟩ := h
  have fresh : ∀ i', i' < i → c i' ≠ c i := by
    rcases h3 (c i) hc with ⟨-, h5⟩ | ⟨r, a1, a2, -⟩
    · exact h5
    · exact absurd (a2.symm.trans e) (by omega)
  refine ⟨⟨fun r => if r = m then i else J r, ?_, ?_, ?_⟩, ?_⟩
  · intro r hr
    by_cases er : r = m
    · subst er
      simp only [if_true, jup_same]
      exact ⟨by omega, trivial, trivial, fresh⟩
    · obtain ⟨b1, b2, b3, b4⟩ := h1 r (by omega)
      simp only [if_neg er]
      refine ⟨by omega, ?_, ?_, b4⟩
      · rw [jup_ne G _ er]; exact b2
      · rw [jup_ne R _ (fresh _ b1)]; exact b3
  · intro r r' l1 l2
    simp only []
    by_cases er : r' = m
    · rw [if_pos er, if_neg (by omega)]; exact (h1 r (by omega)).1
    · rw [if_neg er, if_neg (by omega)]; exact h2 r r' l1 (by omega)
  · intro q hq
    by_cases eq : q = c i
    · exact Or.inr ⟨m, by omega, by rw [eq, jup_same], by simp only [if_true]; exact eq.symm⟩
    · rcases h3 q hq with ⟨a1, a2⟩ | ⟨r, a1, a2, a3⟩
      · refine Or.inl ⟨by rw [jup_ne R _ eq]; exact a1, fun i' hi => ?_⟩
        rcases Nat.lt_or_ge i' i with d | d
        · exact a2 i' d
        · rw [show i' = i by omega]; exact fun x => eq x.symm
      · refine Or.inr ⟨r, by omega, by rw [jup_ne R _ eq]; exact a2, ?_⟩
        simp only [if_neg (show ¬ r = m by omega)]; exact a3
  · rw [cnN_up hc e (by omega), h4]
theorem RI_old {o : Nat → Int} {c : Nat → Nat} {n : Nat} {R G : Nat → Int} {i m : Nat} (h : RI o c n R G i m) (e : R (c i) ≠ -1) : RI o c n R G (i + 1) m := by
  obtain ⟨⟨J, h1, h2, h3⟩, h4⟩ := h
  refine ⟨⟨J, fun r hr => ?_, h2, fun q hq => ?_⟩, h4⟩
  · obtain ⟨b1, b2⟩ := h1 r hr; exact ⟨by omega, b2⟩
  · rcases h3 q hq with ⟨a1, a2⟩ | a1
    · refine Or.inl ⟨a1, fun i' hi => ?_⟩
      rcases Nat.lt_or_ge i' i with d | d
      · exact a2 i' d
      · rw [show i' = i by omega]; intro x; rw [x] at e; exact e a1
    · exact Or.inr a1
theorem RI_le {o : Nat → Int} {c : Nat → Nat} {n : Nat} {R G : Nat → Int} {i m : Nat} (h : RI o c n R G i m) : m ≤ n := by
  rw [← h.2]; exact cnN_le R n
theorem RI_end {o : Nat → Int} {c : Nat → Nat} {n : Nat} {R G : Nat → Int} {i m w : Nat} (h : RI o c n R G i m) (hi : i ≤ w) (e : i = w ∨ m = n) (cov : ∀ q, q < n → ∃ i', i' < w ∧ c i' = q) :
    m = n ∧ ∃ J : Nat → Nat, (∀ r, r < n → J r < w ∧ G r = o (J r) ∧ ∀ i', i' < J r → c i' ≠ c (J r)) ∧ (∀ r r', r < r' → r' < n → J r < J r') ∧ ∀ q, q < n → ∃ r, r < n ∧ R q = r ∧ c (J r) = q := by
  have hm := RI_le h
  have al : ∀ q, q < n → R q ≠ -1 := by
    rcases e with e | e
    · intro q hq
      obtain ⟨⟨J, h1, h2, h3⟩, h4⟩ := h
      rcases h3 q hq with ⟨a1, a2⟩ | ⟨r, a1, a2, a3⟩
      · obtain ⟨i', c1, c2⟩ := cov q hq
        exact absurd c2 (a2 i' (by omega))
      · rw [a2]; omega
    · exact cnN_full (by rw [h.2]; exact e)
  have mn' : m = n := by rw [← h.2]; exact cnN_all al
  obtain ⟨⟨J, h1, h2, h3⟩, h4⟩ := h
  subst mn'
  refine ⟨rfl, J, fun r hr => ?_, h2, fun q hq => ?_⟩
  · obtain ⟨b1, b2, b3, b4⟩ := h1 r hr
    exact ⟨by omega, b2, b4⟩
  · rcases h3 q hq with ⟨a1, -⟩ | a1
    · exact absurd a1 (al q hq)
    · exact a1
/-- the places within n in the order of their keys -/
def OF (a b s : Int) (o : Nat → Int) (w : Nat) : Prop := (∀ i, i < w → (0 ≤ o i ∧ o i < 1681) ∧ px (o i) * px (o i) + py (o i) * py (o i) ≤ a * a + b * b) ∧ (∀ i j, i < j → j < w → ky a b s (px (o i)) (py (o i)) < ky a b s (px (o j)) (py (o j))) ∧
  ∀ x y : Int, x * x + y * y ≤ a * a + b * b → ∃ i, i < w ∧ o i = pc x y
/-- what a laid screen holds -/
def SCR (a b s g t : Int) (R G : Nat → Int) : Prop := ((0 < g ∧ g ≤ 20 ∧ g ∣ a ∧ g ∣ b) ∧ (0 ≤ t ∧ t < a * a + b * b)) ∧ (∀ x y u v, cix (a * a + b * b) g t x y = cix (a * a + b * b) g t u v ↔ sc a b x y u v) ∧
  (∀ r : Nat, (r : Int) < a * a + b * b → (0 ≤ G r ∧ G r < 1681) ∧ hrt a b s (px (G r)) (py (G r))) ∧ (∀ r r' : Nat, r < r' → (r' : Int) < a * a + b * b → ky a b s (px (G r)) (py (G r)) < ky a b s (px (G r')) (py (G r'))) ∧
  ∀ x y, (0 ≤ R (cix (a * a + b * b) g t x y).toNat ∧ R (cix (a * a + b * b) g t x y).toNat < a * a + b * b) ∧ sc a b x y (px (G (R (cix (a * a + b * b) g t x y).toNat).toNat)) (py (G (R (cix (a * a + b * b) g t x y).toNat).toNat))
theorem SCR_of {a b s g t z w' : Int} {o R G : Nat → Int} {w i m : Nat} (hn : 1 ≤ a * a + b * b ∧ a * a + b * b ≤ 400) (hg : 0 < g ∧ g ≤ 20) (ga : g ∣ a) (gb : g ∣ b) (bz : z * a + w' * b = g) (ht : 0 ≤ t ∧ t < a * a + b * b) (l1 : a * a + b * b ∣ a * t + b * g) (l2 : a * a + b * b ∣ a * g - b * t)
    (O : OF a b s o w) (h : RI o (fun i => (cix (a * a + b * b) g t (px (o i)) (py (o i))).toNat) (a * a + b * b).toNat R G i m) (hi : i ≤ w) (e : i = w ∨ m = (a * a + b * b).toNat) : SCR a b s g t R G := by
  have cs := fun x y u v => cix_sc (by omega) hg.1 ga gb bz l1 l2 x y u v
  obtain ⟨a', ea⟩ := ga
  obtain ⟨b', eb⟩ := gb
  have hc : a * a + b * b = g * (a * a' + b * b') := by rw [ea, eb]; grind
  have cb := fun x y => (cix_b (t := t) (x := x) (y := y) hg.1 hc (by omega)).2.2.2.2
  have nc : ∀ x y, ∃ u v, sc a b x y u v ∧ 2 * (u * u + v * v) ≤ a * a + b * b := by
    intro x y
    obtain ⟨k0, l0, n1, n2⟩ := near_c x y (a := a) (b := b) (by omega)
    exact ⟨_, _, ⟨k0, l0, rfl, rfl⟩, half_d (by omega) (nrm_sc a b x y k0 l0) n1 n2⟩
  obtain ⟨o1, o2, o3⟩ := O
  have d20 : ∀ x y : Int, x * x + y * y ≤ a * a + b * b → px (pc x y) = x ∧ py (pc x y) = y := by
    intro x y hd
    have := ds_b (x := x) (y := y) (m := 20) (by omega) (by omega)
    have := pc_xy this.1 this.2
    exact ⟨this.1, this.2.1⟩
  have cov : ∀ q, q < (a * a + b * b).toNat → ∃ i', i' < w ∧ (fun i => (cix (a * a + b * b) g t (px (o i)) (py (o i))).toNat) i' = q := by
    intro q hq
    obtain ⟨c0, e0, -⟩ := cix_b (t := t) (x := 0) (y := 0) hg.1 hc (by omega)
    have k1 := Int.mul_ediv_add_emod (q : Int) (a * a' + b * b')
    have k2 := Int.emod_nonneg (q : Int) (b := a * a' + b * b') (by omega)
    have k3 := Int.emod_lt_of_pos (q : Int) c0
    have k4 : 0 ≤ (q : Int) / (a * a' + b * b') := Int.ediv_nonneg (by omega) (by omega)
    have k5 : (q : Int) / (a * a' + b * b') < g := Int.ediv_lt_of_lt_mul c0 (by omega)
    obtain ⟨u, v, s1, s2⟩ := nc ((q : Int) % (a * a' + b * b')) ((q : Int) / (a * a' + b * b'))
    have hd := sq_nn u
    have hd2 := sq_nn v
    obtain ⟨i', i1, i2⟩ := o3 u v (by omega)
    refine ⟨i', i1, ?_⟩
    simp only []
    rw [i2, (d20 u v (by omega)).1, (d20 u v (by omega)).2, ← (cs _ _ _ _).mpr s1]
    have z0 : (q : Int) / (a * a' + b * b') / g = 0 := Int.ediv_eq_zero_of_lt k4 k5
    unfold cix
    rw [z0, e0, Int.zero_mul, Int.zero_mul, Int.sub_zero, Int.sub_zero, Int.emod_emod]
    have : (q : Int) / (a * a' + b * b') * (a * a' + b * b') = (a * a' + b * b') * ((q : Int) / (a * a' + b * b')) := Int.mul_comm _ _
    omega
  obtain ⟨-, J, j1, j2, j3⟩ := RI_end h hi e cov
  refine ⟨⟨⟨hg.1, hg.2, ⟨a', ea⟩, ⟨b', eb⟩⟩, ht⟩, cs, fun r hr => ?_, fun r r' h1 h2 => ?_, fun x y => ?_⟩
  · obtain ⟨q1, q2, q3⟩ := j1 r (by omega)
    rw [q2]
    refine ⟨(o1 _ q1).1, (o1 _ q1).2, fun u v c hd => ?_⟩
    obtain ⟨i', i1, i2⟩ := o3 u v hd
    have ex := d20 u v hd
    have same : cix (a * a + b * b) g t (px (o (J r))) (py (o (J r))) = cix (a * a + b * b) g t (px (o i')) (py (o i')) := by rw [i2, ex.1, ex.2]; exact (cs _ _ _ _).mpr c
    rcases Nat.lt_trichotomy i' (J r) with d | d | d
    · exact absurd (congrArg Int.toNat same.symm) (q3 i' d)
    · rw [← d, i2, ex.1, ex.2]; exact Int.le_refl _
    · have := o2 _ _ d i1
      rw [i2, ex.1, ex.2] at this
      omega
  · obtain ⟨q1, q2, q3⟩ := j1 r (by omega)
    obtain ⟨q4, q5, q6⟩ := j1 r' (by omega)
    rw [q2, q5]
    exact o2 _ _ (j2 r r' h1 (by omega)) q4
  · obtain ⟨r, r1, r2, r3⟩ := j3 (cix (a * a + b * b) g t x y).toNat (by have := cb x y; omega)
    rw [r2]
    refine ⟨by omega, ?_⟩
    obtain ⟨q1, q2, q3⟩ := j1 r r1
    rw [Int.toNat_natCast, q2]
    refine (cs _ _ _ _).mp ?_
    have k1 := cb x y
    have k2 := cb (px (o (J r))) (py (o (J r)))
    have r4 : (cix (a * a + b * b) g t (px (o (J r))) (py (o (J r)))).toNat = (cix (a * a + b * b) g t x y).toNat := r3
    omega
