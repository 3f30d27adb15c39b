/-! which places are of one tile place: a number for each -/
theorem sc_dvd {a b x y u v : Int} (hn : 0 < a * a + b * b) : sc a b x y u v ↔ (a * a + b * b ∣ a * (u - x) + b * (v - y)) ∧ (a * a + b * b ∣ a * (v - y) - b * (u - x)) := by
  constructor
  · rintro ⟨k, l, e1, e2⟩
    exact ⟨⟨k, by grind⟩, ⟨l, by grind⟩⟩
  · rintro ⟨⟨k, e1⟩, ⟨l, e2⟩⟩
    refine ⟨k, l, ?_, ?_⟩
    · have : (a * a + b * b) * (u - x) = (a * a + b * b) * (a * k - b * l) := by grind
      have := Int.eq_of_mul_eq_mul_left (by omega) this
      omega
    · have : (a * a + b * b) * (v - y) = (a * a + b * b) * (b * k + a * l) := by grind
      have := Int.eq_of_mul_eq_mul_left (by omega) this
      omega
def cix (n g t x y : Int) : Int := (y - y / g * g) * (n / g) + (x - y / g * t) % (n / g)
theorem cix_b {n g t x y c : Int} (hg : 0 < g) (hc : n = g * c) (hn : 0 < n) : 0 < c ∧ n / g = c ∧ (0 ≤ y - y / g * g ∧ y - y / g * g < g) ∧ (0 ≤ (x - y / g * t) % c ∧ (x - y / g * t) % c < c) ∧ 0 ≤ cix n g t x y ∧ cix n g t x y < n := by
  have c0 : 0 < c := Int.pos_of_mul_pos_right (a := g) (by omega) hg |> fun h => h
  have e : n / g = c := by rw [hc]; exact Int.mul_ediv_cancel_left c (by omega)
  have r1 := Int.emod_nonneg y (b := g) (by omega)
  have r2 := Int.emod_lt_of_pos y hg
  have r3 := Int.mul_ediv_add_emod y g
  have r4 : g * (y / g) = y / g * g := Int.mul_comm _ _
  have m1 := Int.emod_nonneg (x - y / g * t) (b := c) (by omega)
  have m2 := Int.emod_lt_of_pos (x - y / g * t) c0
  refine ⟨c0, e, by omega, ⟨m1, m2⟩, ?_⟩
  unfold cix
  rw [e]
  have k1 : 0 ≤ (y - y / g * g) * c := Int.mul_nonneg (by omega) (by omega)
  have k2 : (y - y / g * g) * c ≤ (g - 1) * c := Int.mul_le_mul_of_nonneg_right (by omega) (by omega)
  have k3 : (g - 1) * c = g * c - c := by grind
  omega
theorem ed_u {A B r q c : Int} (hr : 0 ≤ r ∧ r < c) (hq : 0 ≤ q ∧ q < c) (h : A * c + r = B * c + q) : A = B ∧ r = q := by
  have h1 : (A * c + r) / c = A := by rw [Int.add_comm, Int.add_mul_ediv_right _ _ (by omega), Int.ediv_eq_zero_of_lt hr.1 hr.2]; omega
  have h2 : (B * c + q) / c = B := by rw [Int.add_comm, Int.add_mul_ediv_right _ _ (by omega), Int.ediv_eq_zero_of_lt hq.1 hq.2]; omega
  have : A = B := by rw [← h1, ← h2, h]
  subst this
  exact ⟨rfl, by omega⟩
theorem cix_sc {a b g t z w : Int} (hn : 0 < a * a + b * b) (hg : 0 < g) (ga : g ∣ a) (gb : g ∣ b) (bz : z * a + w * b = g) (l1 : a * a + b * b ∣ a * t + b * g) (l2 : a * a + b * b ∣ a * g - b * t) (x y u v : Int) :
    (cix (a * a + b * b) g t x y = cix (a * a + b * b) g t u v) ↔ sc a b x y u v := by
  obtain ⟨a', ea⟩ := ga
  obtain ⟨b', eb⟩ := gb
  have hc : a * a + b * b = g * (a * a' + b * b') := by rw [ea, eb]; grind
  obtain ⟨c0, e0, y1, x1, -⟩ := cix_b (t := t) (x := x) (y := y) hg hc hn
  obtain ⟨-, -, y2, x2, -⟩ := cix_b (t := t) (x := u) (y := v) hg hc hn
  constructor
  · intro h
    unfold cix at h
    rw [e0] at h
    obtain ⟨h1, h2⟩ := ed_u x1 x2 h
    have d1 := Int.mul_ediv_add_emod (x - y / g * t) (a * a' + b * b')
    have d2 := Int.mul_ediv_add_emod (u - v / g * t) (a * a' + b * b')
    rw [sc_dvd hn]
    generalize v / g = m2 at *
    generalize y / g = m1 at *
    generalize (u - m2 * t) / (a * a' + b * b') = q2 at *
    generalize (x - m1 * t) / (a * a' + b * b') = q1 at *
    have ey : v - y = (m2 - m1) * g := by grind
    have ex : u - x = (m2 - m1) * t + (q2 - q1) * (a * a' + b * b') := by grind
    obtain ⟨r1, f1⟩ := l1
    obtain ⟨r2, f2⟩ := l2
    rw [ey, ex]
    refine ⟨⟨(m2 - m1) * r1 + (q2 - q1) * a', ?_⟩, ⟨(m2 - m1) * r2 - (q2 - q1) * b', ?_⟩⟩
    · have p1 : a * ((m2 - m1) * t + (q2 - q1) * (a * a' + b * b')) + b * ((m2 - m1) * g) = (m2 - m1) * (a * t + b * g) + (q2 - q1) * (a * (a * a' + b * b')) := by grind
      have p2 : a * (a * a' + b * b') = (a * a + b * b) * a' := by rw [hc]; rw [show a * (a * a' + b * b') = (g * a') * (a * a' + b * b') by rw [← ea]]; grind
      rw [p1, f1, p2]; grind
    · have p1 : a * ((m2 - m1) * g) - b * ((m2 - m1) * t + (q2 - q1) * (a * a' + b * b')) = (m2 - m1) * (a * g - b * t) - (q2 - q1) * (b * (a * a' + b * b')) := by grind
      have p2 : b * (a * a' + b * b') = (a * a + b * b) * b' := by rw [hc]; rw [show b * (a * a' + b * b') = (g * b') * (a * a' + b * b') by rw [← eb]]; grind
      rw [p1, f2, p2]; grind
  · rintro ⟨k, l, e1, e2⟩
    have ev : v = y + (b' * k + a' * l) * g := by rw [e2]; rw [show b * k = b' * k * g by rw [eb]; grind, show a * l = a' * l * g by rw [ea]; grind]; grind
    have dv : v / g = y / g + (b' * k + a' * l) := by rw [ev]; exact Int.add_mul_ediv_right y _ (by omega)
    have f1 : v - v / g * g = y - y / g * g := by rw [dv, ev]; grind
    have dd : a * a' + b * b' ∣ (a * k - b * l) - (b' * k + a' * l) * t := by
      obtain ⟨r1, f1⟩ := l1
      obtain ⟨r2, f2⟩ := l2
      have q : g * ((a * k - b * l) - (b' * k + a' * l) * t) = g * ((a * a' + b * b') * (z * (k - (b' * k + a' * l) * r1) - w * (l - (b' * k + a' * l) * r2))) := by
        have q1 : a * ((a * k - b * l) - (b' * k + a' * l) * t) = (a * a + b * b) * (k - (b' * k + a' * l) * r1) := by
          have : a * t = (a * a + b * b) * r1 - b * g := by omega
          have t2 : b * (b * k + a * l) = (b' * k + a' * l) * (b * g) := by
            rw [show b * k + a * l = (b' * k + a' * l) * g by rw [show b * k = b' * k * g by rw [eb]; grind, show a * l = a' * l * g by rw [ea]; grind]; grind]; grind
          rw [show a * ((a * k - b * l) - (b' * k + a' * l) * t) = a * (a * k - b * l) - (b' * k + a' * l) * (a * t) by grind, this]
          grind
        have q2 : b * ((a * k - b * l) - (b' * k + a' * l) * t) = -((a * a + b * b) * (l - (b' * k + a' * l) * r2)) := by
          have : b * t = a * g - (a * a + b * b) * r2 := by omega
          have t2 : a * (b * k + a * l) = (b' * k + a' * l) * (a * g) := by
            rw [show b * k + a * l = (b' * k + a' * l) * g by rw [show b * k = b' * k * g by rw [eb]; grind, show a * l = a' * l * g by rw [ea]; grind]; grind]; grind
          rw [show b * ((a * k - b * l) - (b' * k + a' * l) * t) = b * (a * k - b * l) - (b' * k + a' * l) * (b * t) by grind, this]
          grind
        rw [← Int.mul_assoc g (a * a' + b * b'), ← hc]
        generalize (a * k - b * l) - (b' * k + a' * l) * t = E at *
        rw [← bz, show (z * a + w * b) * E = z * (a * E) + w * (b * E) by grind, q1, q2]
        grind
      exact ⟨_, Int.eq_of_mul_eq_mul_left (by omega) q⟩
    unfold cix
    rw [e0, f1, dv]
    congr 1
    obtain ⟨r, er⟩ := dd
    have : u - (y / g + (b' * k + a' * l)) * t = (x - y / g * t) + (a * a' + b * b') * r := by rw [← er, e1]; grind
    rw [this, Int.add_mul_emod_self_left]
