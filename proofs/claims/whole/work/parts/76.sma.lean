/-! the screens: places, forms, keys -/
def frm (a b s x y : Int) : Int := if s = 0 then x * x + y * y else if s = 1 then (if a * y - b * x < 0 then -(a * y - b * x) else a * y - b * x) else (if x < 0 then -x else x) + (if y < 0 then -y else y)
def ky (a b s x y : Int) : Int := ((frm a b s x y * 4096 + (x * x + y * y)) * 128 + y) * 128 + x
/-- the same tile place -/
def sc (a b x y u v : Int) : Prop := ∃ k l : Int, u = x + a * k - b * l ∧ v = y + b * k + a * l
/-- a heart: the first of its own by key, within n -/
def hrt (a b s x y : Int) : Prop := x * x + y * y ≤ a * a + b * b ∧ ∀ u v, sc a b x y u v → u * u + v * v ≤ a * a + b * b → ky a b s x y ≤ ky a b s u v
theorem sq_b {x m : Int} (h : x * x ≤ m * m) (hm : 0 ≤ m) : -m ≤ x ∧ x ≤ m := by
  constructor
  · apply Int.not_lt.mp
    intro c
    have := Int.mul_le_mul_of_nonneg_left (a := m + 1) (b := -x) (c := m) (by omega) hm
    have h2 := Int.mul_le_mul_of_nonneg_right (a := m + 1) (b := -x) (c := -x) (by omega) (by omega)
    have e : -x * -x = x * x := by grind
    have e2 : (m + 1) * -x = m * -x + -x := by grind
    have e3 : m * (m + 1) = m * m + m := by grind
    omega
  · apply Int.not_lt.mp
    intro c
    have := Int.mul_le_mul_of_nonneg_left (a := m + 1) (b := x) (c := m) (by omega) hm
    have h2 := Int.mul_le_mul_of_nonneg_right (a := m + 1) (b := x) (c := x) (by omega) (by omega)
    have e2 : (m + 1) * x = m * x + x := by grind
    have e3 : m * (m + 1) = m * m + m := by grind
    omega
theorem sq_nn (x : Int) : 0 ≤ x * x := by
  rcases Int.le_total 0 x with h | h
  · exact Int.mul_nonneg h h
  · exact Int.mul_nonneg_of_nonpos_of_nonpos h h
theorem ds_b {x y m : Int} (h : x * x + y * y ≤ m * m) (hm : 0 ≤ m) : (-m ≤ x ∧ x ≤ m) ∧ (-m ≤ y ∧ y ≤ m) := by
  have := sq_nn x
  have := sq_nn y
  exact ⟨sq_b (by omega) hm, sq_b (by omega) hm⟩
theorem ky_inj {a b s x y u v : Int} (h1 : x * x + y * y < 3600) (h2 : u * u + v * v < 3600) (h : ky a b s x y = ky a b s u v) : x = u ∧ y = v := by
  have b1 := ds_b (x := x) (y := y) (m := 60) (by omega) (by omega)
  have b2 := ds_b (x := u) (y := v) (m := 60) (by omega) (by omega)
  unfold ky at h
  omega
theorem sc_refl {a b x y : Int} : sc a b x y x y := ⟨0, 0, by omega, by omega⟩
theorem sc_symm {a b x y u v : Int} (h : sc a b x y u v) : sc a b u v x y := by
  obtain ⟨k, l, e1, e2⟩ := h
  exact ⟨-k, -l, by grind, by grind⟩
theorem sc_trans {a b x y u v w z : Int} (h : sc a b x y u v) (h2 : sc a b u v w z) : sc a b x y w z := by
  obtain ⟨k, l, e1, e2⟩ := h
  obtain ⟨k', l', e3, e4⟩ := h2
  exact ⟨k + k', l + l', by grind, by grind⟩
theorem nrm (a b x y : Int) : (a * a + b * b) * (x * x + y * y) = (a * x + b * y) * (a * x + b * y) + (a * y - b * x) * (a * y - b * x) := by grind
theorem hrt_uniq {a b s x y u v : Int} (hn : a * a + b * b ≤ 400) (h : hrt a b s x y) (h2 : hrt a b s u v) (c : sc a b x y u v) : x = u ∧ y = v := by
  have l1 := h.2 u v c h2.1
  have l2 := h2.2 x y (sc_symm c) h.1
  exact ky_inj (a := a) (b := b) (s := s) (by have := h.1; omega) (by have := h2.1; omega) (by omega)
/-- a step count that brings a number near nought -/
theorem near_k {n U : Int} (hn : 0 < n) : ∃ k : Int, -n ≤ 2 * (U + n * k) ∧ 2 * (U + n * k) ≤ n := by
  refine ⟨-((2 * U + n) / (2 * n)), ?_⟩
  have h1 := Int.mul_ediv_add_emod (2 * U + n) (2 * n)
  have h2 := Int.emod_nonneg (2 * U + n) (b := 2 * n) (by omega)
  have h3 := Int.emod_lt_of_pos (2 * U + n) (b := 2 * n) (by omega)
  have e : 2 * (U + n * -((2 * U + n) / (2 * n))) = 2 * U - 2 * n * ((2 * U + n) / (2 * n)) := by grind
  omega
theorem nrm_sc (a b x y k l : Int) : (a * a + b * b) * ((x + a * k - b * l) * (x + a * k - b * l) + (y + b * k + a * l) * (y + b * k + a * l)) = (a * x + b * y + (a * a + b * b) * k) * (a * x + b * y + (a * a + b * b) * k) + (a * y - b * x + (a * a + b * b) * l) * (a * y - b * x + (a * a + b * b) * l) := by grind
theorem dst_le {n d i j m : Int} (hn : 0 < n) (e : n * d = i * i + j * j) (h1 : -m ≤ i ∧ i ≤ m) (h2 : -m ≤ j ∧ j ≤ m) (c : Int) (hc : 2 * (m * m) ≤ n * c) : d ≤ c := by
  have e1 : 0 ≤ (m - i) * (m + i) := Int.mul_nonneg (by omega) (by omega)
  have e2 : 0 ≤ (m - j) * (m + j) := Int.mul_nonneg (by omega) (by omega)
  have e3 : (m - i) * (m + i) = m * m - i * i := by grind
  have e4 : (m - j) * (m + j) = m * m - j * j := by grind
  exact Int.le_of_mul_le_mul_left (a := n) (by omega) hn
/-- each place has one of its own that is near -/
theorem near_c {a b : Int} (x y : Int) (hn : 0 < a * a + b * b) : ∃ k l : Int, (-(a * a + b * b) ≤ 2 * (a * x + b * y + (a * a + b * b) * k) ∧ 2 * (a * x + b * y + (a * a + b * b) * k) ≤ a * a + b * b) ∧ (-(a * a + b * b) ≤ 2 * (a * y - b * x + (a * a + b * b) * l) ∧ 2 * (a * y - b * x + (a * a + b * b) * l) ≤ a * a + b * b) := by
  obtain ⟨k, hk⟩ := near_k (U := a * x + b * y) hn
  obtain ⟨l, hl⟩ := near_k (U := a * y - b * x) hn
  exact ⟨k, l, hk, hl⟩
theorem half_d {n d i j : Int} (hn : 0 < n) (e : n * d = i * i + j * j) (h1 : -n ≤ 2 * i ∧ 2 * i ≤ n) (h2 : -n ≤ 2 * j ∧ 2 * j ≤ n) : 2 * d ≤ n := by
  have e1 : 0 ≤ (n - 2 * i) * (n + 2 * i) := Int.mul_nonneg (by omega) (by omega)
  have e2 : 0 ≤ (n - 2 * j) * (n + 2 * j) := Int.mul_nonneg (by omega) (by omega)
  have e3 : (n - 2 * i) * (n + 2 * i) = n * n - 4 * (i * i) := by grind
  have e4 : (n - 2 * j) * (n + 2 * j) = n * n - 4 * (j * j) := by grind
  have e5 : n * (4 * d) = 4 * (n * d) := by grind
  have e6 : n * (2 * n) = 2 * (n * n) := by grind
  have := Int.le_of_mul_le_mul_left (a := n) (b := 4 * d) (c := 2 * n) (by omega) hn
  omega
theorem ky_le {a b s x y u v : Int} (h1 : x * x + y * y < 3600) (h2 : u * u + v * v < 3600) (h : ky a b s x y ≤ ky a b s u v) : frm a b s x y ≤ frm a b s u v ∧ (frm a b s x y = frm a b s u v → x * x + y * y ≤ u * u + v * v) := by
  have b1 := ds_b (x := x) (y := y) (m := 60) (by omega) (by omega)
  have b2 := ds_b (x := u) (y := v) (m := 60) (by omega) (by omega)
  have := sq_nn x
  have := sq_nn y
  have := sq_nn u
  have := sq_nn v
  unfold ky at h
  constructor
  · omega
  · intro e; rw [e] at h; omega
/-- the least of the candidates is a heart -/
theorem least_hrt {a b s x y k l : Int} (hn : 1 ≤ a * a + b * b ∧ a * a + b * b ≤ 400)
    (hk : -2 * (a * a + b * b) ≤ a * x + b * y + (a * a + b * b) * k ∧ a * x + b * y + (a * a + b * b) * k < 2 * (a * a + b * b))
    (hl : -2 * (a * a + b * b) ≤ a * y - b * x + (a * a + b * b) * l ∧ a * y - b * x + (a * a + b * b) * l < 2 * (a * a + b * b))
    (hm : ∀ k' l' : Int, (-2 * (a * a + b * b) ≤ a * x + b * y + (a * a + b * b) * k' ∧ a * x + b * y + (a * a + b * b) * k' < 2 * (a * a + b * b)) → (-2 * (a * a + b * b) ≤ a * y - b * x + (a * a + b * b) * l' ∧ a * y - b * x + (a * a + b * b) * l' < 2 * (a * a + b * b)) →
      ky a b s (x + a * k - b * l) (y + b * k + a * l) ≤ ky a b s (x + a * k' - b * l') (y + b * k' + a * l')) :
    hrt a b s (x + a * k - b * l) (y + b * k + a * l) := by
  have far : ∀ k' l' : Int, (-2 * (a * a + b * b) ≤ a * x + b * y + (a * a + b * b) * k' ∧ a * x + b * y + (a * a + b * b) * k' < 2 * (a * a + b * b)) → (-2 * (a * a + b * b) ≤ a * y - b * x + (a * a + b * b) * l' ∧ a * y - b * x + (a * a + b * b) * l' < 2 * (a * a + b * b)) → (x + a * k' - b * l') * (x + a * k' - b * l') + (y + b * k' + a * l') * (y + b * k' + a * l') ≤ 8 * (a * a + b * b) := by
    intro k' l' h1 h2
    refine dst_le (n := a * a + b * b) (m := 2 * (a * a + b * b)) (by omega) (nrm_sc a b x y k' l') (by omega) (by omega) _ ?_
    have : 2 * (2 * (a * a + b * b) * (2 * (a * a + b * b))) = (a * a + b * b) * (8 * (a * a + b * b)) := by grind
    omega
  obtain ⟨k0, l0, n1, n2⟩ := near_c x y (a := a) (b := b) (by omega)
  have d0 := half_d (by omega) (nrm_sc a b x y k0 l0) n1 n2
  have f0 := far k l hk hl
  have m0 := hm k0 l0 (by omega) (by omega)
  have dn : (x + a * k - b * l) * (x + a * k - b * l) + (y + b * k + a * l) * (y + b * k + a * l) ≤ a * a + b * b := by
    have t0 := ky_le (by omega) (by omega) m0
    by_cases s0 : s = 0
    · have := t0.1
      unfold frm at this
      rw [if_pos s0, if_pos s0] at this
      omega
    · by_cases s1 : s = 1
      · have t1 := t0.1
        have q : ∀ k' l' : Int, frm a b s (x + a * k' - b * l') (y + b * k' + a * l') = if (a * y - b * x + (a * a + b * b) * l') < 0 then -(a * y - b * x + (a * a + b * b) * l') else (a * y - b * x + (a * a + b * b) * l') := by
          intro k' l'
          unfold frm
          rw [if_neg s0, if_pos s1, show a * (y + b * k' + a * l') - b * (x + a * k' - b * l') = a * y - b * x + (a * a + b * b) * l' by grind]
        rw [q, q] at t1
        have n3 : -(a * a + b * b) ≤ 2 * (a * y - b * x + (a * a + b * b) * l) ∧ 2 * (a * y - b * x + (a * a + b * b) * l) ≤ a * a + b * b := by
          split at t1 <;> split at t1 <;> omega
        have d1 := half_d (by omega) (nrm_sc a b x y k0 l) n1 n3
        have m1 := hm k0 l (by omega) hl
        have t2 := (ky_le (by omega) (by omega) m1).2 (by rw [q, q])
        omega
      · have t1 := t0.1
        unfold frm at t1
        rw [if_neg s0, if_neg s1, if_neg s0, if_neg s1] at t1
        generalize x + a * k - b * l = p at *
        generalize y + b * k + a * l = q at *
        generalize x + a * k0 - b * l0 = p' at *
        generalize y + b * k0 + a * l0 = q' at *
        have A : ∀ z : Int, ∃ w, (if z < 0 then -z else z) = w ∧ 0 ≤ w ∧ w * w = z * z := by
          intro z
          split
          · exact ⟨-z, rfl, by omega, by grind⟩
          · exact ⟨z, rfl, by omega, rfl⟩
        obtain ⟨p1, e1, g1, r1⟩ := A p
        obtain ⟨q1, e2, g2, r2⟩ := A q
        obtain ⟨p2, e3, g3, r3⟩ := A p'
        obtain ⟨q2, e4, g4, r4⟩ := A q'
        rw [e1, e2, e3, e4] at t1
        have s1 := Int.mul_le_mul t1 t1 (by omega) (by omega)
        have s2 := Int.mul_nonneg g1 g2
        have s3 := sq_nn (p2 - q2)
        have s4 : (p1 + q1) * (p1 + q1) = p1 * p1 + q1 * q1 + 2 * (p1 * q1) := by grind
        have s5 : (p2 + q2) * (p2 + q2) = 2 * (p2 * p2 + q2 * q2) - (p2 - q2) * (p2 - q2) := by grind
        omega
  refine ⟨dn, fun u v c hd => ?_⟩
  obtain ⟨k1, l1, e1, e2⟩ := c
  have g1 : u = x + a * (k + k1) - b * (l + l1) := by grind
  have g2 : v = y + b * (k + k1) + a * (l + l1) := by grind
  have e := nrm_sc a b x y (k + k1) (l + l1)
  rw [← g1, ← g2] at e
  have hb : (a * x + b * y + (a * a + b * b) * (k + k1)) * (a * x + b * y + (a * a + b * b) * (k + k1)) + (a * y - b * x + (a * a + b * b) * (l + l1)) * (a * y - b * x + (a * a + b * b) * (l + l1)) ≤ (a * a + b * b) * (a * a + b * b) := by
    rw [← e]
    exact Int.mul_le_mul_of_nonneg_left hd (by omega)
  have bb := ds_b hb (by omega)
  rw [g1, g2]
  exact hm _ _ (by omega) (by omega)
