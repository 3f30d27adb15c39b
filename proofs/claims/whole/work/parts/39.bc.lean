/-! counting the bits of a long -/
def pop : Nat → Nat → Nat
  | 0, _ => 0
  | k + 1, n => n % 2 + pop k (n / 2)
def m5 : Nat → Nat
  | 0 => 0
  | k + 1 => 256 * m5 k + 85
def m3 : Nat → Nat
  | 0 => 0
  | k + 1 => 256 * m3 k + 51
def mf : Nat → Nat
  | 0 => 0
  | k + 1 => 256 * mf k + 15
def r1 (k n : Nat) : Nat := n - ((n / 2) &&& m5 k)
def r2 (k n : Nat) : Nat := (n &&& m3 k) + ((n / 4) &&& m3 k)
def r3 (k n : Nat) : Nat := (n + n / 16) &&& mf k
def t1 (b : Nat) : Nat := b - ((b / 2) &&& 85)
def t2 (b : Nat) : Nat := (b &&& 51) + ((b / 4) &&& 51)
def t3 (b : Nat) : Nat := (b + b / 16) &&& 15
theorem and_split (x y : Nat) : x &&& y = 256 * ((x / 256) &&& (y / 256)) + ((x % 256) &&& (y % 256)) := by
  have h1 : (x &&& y) / 256 = (x / 256) &&& (y / 256) := Nat.and_div_two_pow (n := 8)
  have h2 : (x &&& y) % 256 = (x % 256) &&& (y % 256) := Nat.and_mod_two_pow (n := 8)
  have := Nat.div_add_mod (x &&& y) 256
  omega
theorem bt1 : ∀ b, b < 256 → ∀ c, c < 2 → ((b / 2 + 128 * c) &&& 85) = ((b / 2) &&& 85) := by decide +kernel
theorem bt2 : ∀ b, b < 256 → ∀ c, c < 4 → ((b / 4 + 64 * c) &&& 51) = ((b / 4) &&& 51) := by decide +kernel
theorem bt3 : ∀ b, b < 256 → t1 b < 256 ∧ t2 (t1 b) < 256 ∧ t2 (t1 b) % 16 ≤ 4 ∧ t2 (t1 b) / 16 ≤ 4 := by decide +kernel
theorem bt4 : ∀ x, x < 69 → ∀ c, c < 5 → (x % 16 ≤ 4 ∧ x / 16 ≤ 4) → ((x + x / 16 + 16 * c) &&& 15) = t3 x := by decide +kernel
theorem bt5 : ∀ b, b < 256 → t3 (t2 (t1 b)) = pop 8 b ∧ pop 8 b ≤ 8 := by decide +kernel
theorem r1_step (k a b : Nat) (hb : b < 256) : r1 (k + 1) (256 * a + b) = 256 * r1 k a + t1 b := by
  unfold r1 t1
  rw [and_split ((256 * a + b) / 2), show (256 * a + b) / 2 / 256 = a / 2 by omega, show m5 (k + 1) / 256 = m5 k by show (256 * m5 k + 85) / 256 = _; omega, show m5 (k + 1) % 256 = 85 by show (256 * m5 k + 85) % 256 = _; omega, show (256 * a + b) / 2 % 256 = b / 2 + 128 * (a % 2) by omega, bt1 b hb (a % 2) (by omega)]
  have h1 : (a / 2) &&& m5 k ≤ a / 2 := Nat.and_le_left
  have h2 : (b / 2) &&& 85 ≤ b / 2 := Nat.and_le_left
  omega
theorem r2_step (k a b : Nat) (hb : b < 256) : r2 (k + 1) (256 * a + b) = 256 * r2 k a + t2 b := by
  unfold r2 t2
  rw [and_split (256 * a + b), and_split ((256 * a + b) / 4), show m3 (k + 1) / 256 = m3 k by show (256 * m3 k + 51) / 256 = _; omega, show m3 (k + 1) % 256 = 51 by show (256 * m3 k + 51) % 256 = _; omega, show (256 * a + b) / 256 = a by omega, show (256 * a + b) % 256 = b by omega, show (256 * a + b) / 4 / 256 = a / 4 by omega, show (256 * a + b) / 4 % 256 = b / 4 + 64 * (a % 4) by omega, bt2 b hb (a % 4) (by omega)]
  omega
theorem r3_step (k a b : Nat) (hb : b % 16 ≤ 4 ∧ b / 16 ≤ 4) (ha : a % 16 ≤ 4) : r3 (k + 1) (256 * a + b) = 256 * r3 k a + t3 b := by
  unfold r3
  rw [and_split (256 * a + b + (256 * a + b) / 16), show mf (k + 1) / 256 = mf k by show (256 * mf k + 15) / 256 = _; omega, show mf (k + 1) % 256 = 15 by show (256 * mf k + 15) % 256 = _; omega, show (256 * a + b + (256 * a + b) / 16) / 256 = a + a / 16 by omega, show (256 * a + b + (256 * a + b) / 16) % 256 = b + b / 16 + 16 * (a % 16) by omega, bt4 b (by omega) (a % 16) (by omega) hb]
theorem r_low (k n : Nat) : r2 (k + 1) (r1 (k + 1) n) % 16 ≤ 4 := by
  have e : n = 256 * (n / 256) + n % 256 := by omega
  have hb : n % 256 < 256 := by omega
  rw [e, r1_step k _ _ hb, r2_step k _ _ (bt3 _ hb).1]
  have := (bt3 _ hb).2.2.1
  omega
theorem r_zero (n : Nat) : r2 0 (r1 0 n) = 0 := by simp [r2, m3]
theorem r_all (k n : Nat) : r3 (k + 1) (r2 (k + 1) (r1 (k + 1) n)) = 256 * r3 k (r2 k (r1 k (n / 256))) + pop 8 (n % 256) := by
  have e : n = 256 * (n / 256) + n % 256 := by omega
  have hb : n % 256 < 256 := by omega
  have hl : r2 k (r1 k (n / 256)) % 16 ≤ 4 := by
    cases k with
    | zero => rw [r_zero]; omega
    | succ k => exact r_low k _
  obtain ⟨c1, c2, c3, c4⟩ := bt3 _ hb
  conv => lhs; rw [e]
  rw [r1_step k _ _ hb, r2_step k _ _ c1, r3_step k _ _ ⟨c3, c4⟩ hl, (bt5 _ hb).1]
theorem pop_mod : ∀ (k n : Nat), pop k (n % 2 ^ k) = pop k n
  | 0, _ => rfl
  | k + 1, n => by
    show n % 2 ^ (k + 1) % 2 + pop k (n % 2 ^ (k + 1) / 2) = n % 2 + pop k (n / 2)
    have h1 : n % 2 ^ (k + 1) % 2 = n % 2 := Nat.mod_mod_of_dvd n ⟨2 ^ k, by rw [Nat.pow_succ]; omega⟩
    have h2 : n % 2 ^ (k + 1) / 2 = n / 2 % 2 ^ k := by rw [Nat.pow_succ, Nat.mul_comm, Nat.mod_mul_right_div_self]
    rw [h1, h2, pop_mod k]
theorem pop_add : ∀ (j k n : Nat), pop (j + k) n = pop j n + pop k (n / 2 ^ j)
  | 0, k, n => by simp [pop]
  | j + 1, k, n => by
    rw [show j + 1 + k = (j + k) + 1 by omega]
    show n % 2 + pop (j + k) (n / 2) = n % 2 + pop j (n / 2) + pop k (n / 2 ^ (j + 1))
    rw [pop_add j k (n / 2), Nat.div_div_eq_div_mul, ← Nat.pow_succ']
    exact (Nat.add_assoc _ _ _).symm
theorem pop_sum (n : Nat) : pop 64 n = pop 8 (n % 256) + pop 8 (n / 256 % 256) + pop 8 (n / 256 / 256 % 256) + pop 8 (n / 256 / 256 / 256 % 256) + pop 8 (n / 256 / 256 / 256 / 256 % 256) + pop 8 (n / 256 / 256 / 256 / 256 / 256 % 256) + pop 8 (n / 256 / 256 / 256 / 256 / 256 / 256 % 256) + pop 8 (n / 256 / 256 / 256 / 256 / 256 / 256 / 256 % 256) := by
  have e : ∀ n, pop 8 (n % 256) = pop 8 n := fun n => pop_mod 8 n
  simp only [e]
  have s : ∀ k n, pop (8 + k) n = pop 8 n + pop k (n / 256) := fun k n => pop_add 8 k n
  rw [s 56, s 48, s 40, s 32, s 24, s 16, s 8]
  omega
/-- what the bits of a long come to -/
def bcn (n : Nat) : Nat :=
  let m := r3 8 (r2 8 (r1 8 n))
  let m4 := m + m / 256
  let m5 := m4 + m4 / 65536
  (m5 + m5 / 4294967296) % 128
theorem bcn_sum {c0 c1 c2 c3 c4 c5 c6 c7 X1 X2 X3 X4 X5 X6 m : Nat} (h0 : c0 ≤ 8) (h1 : c1 ≤ 8) (h2 : c2 ≤ 8) (h3 : c3 ≤ 8) (h4 : c4 ≤ 8) (h5 : c5 ≤ 8) (h6 : c6 ≤ 8) (h7 : c7 ≤ 8)
    (e0 : m = 256 * X1 + c0) (e1 : X1 = 256 * X2 + c1) (e2 : X2 = 256 * X3 + c2) (e3 : X3 = 256 * X4 + c3) (e4 : X4 = 256 * X5 + c4) (e5 : X5 = 256 * X6 + c5) (e6 : X6 = 256 * c7 + c6) :
    (m + m / 256 + (m + m / 256) / 65536 + (m + m / 256 + (m + m / 256) / 65536) / 4294967296) % 128 = c0 + c1 + c2 + c3 + c4 + c5 + c6 + c7 := by
  have d1 : m / 256 = X1 := by omega
  have f1 : m + X1 = 65536 * (X2 + X3) + (256 * (c1 + c2) + (c0 + c1)) := by omega
  have d2 : (m + X1) / 65536 = X2 + X3 := by
    rw [f1]
    have : 256 * (c1 + c2) + (c0 + c1) < 65536 := by omega
    generalize 256 * (c1 + c2) + (c0 + c1) = z at *
    omega
  have f2 : X2 + X3 = 65536 * (X4 + X5) + (256 * (c3 + c4) + (c2 + c3)) := by omega
  have f3 : X4 + X5 = 65536 * (X6 + c7) + (256 * (c5 + c6) + (c4 + c5)) := by omega
  have f4 : m + X1 + (X2 + X3) = 4294967296 * (X4 + X5 + (X6 + c7)) + (65536 * (256 * (c3 + c4) + (c2 + c3) + (256 * (c5 + c6) + (c4 + c5))) + (256 * (c1 + c2 + (c3 + c4)) + (c0 + c1 + (c2 + c3)))) := by
    rw [f1, f2]
    generalize hA : X4 + X5 = A at *
    omega
  have d3 : (m + X1 + (X2 + X3)) / 4294967296 = X4 + X5 + (X6 + c7) := by
    rw [f4]
    have : 65536 * (256 * (c3 + c4) + (c2 + c3) + (256 * (c5 + c6) + (c4 + c5))) + (256 * (c1 + c2 + (c3 + c4)) + (c0 + c1 + (c2 + c3))) < 4294967296 := by omega
    generalize 65536 * (256 * (c3 + c4) + (c2 + c3) + (256 * (c5 + c6) + (c4 + c5))) + (256 * (c1 + c2 + (c3 + c4)) + (c0 + c1 + (c2 + c3))) = z at *
    generalize X4 + X5 + (X6 + c7) = y at *
    omega
  rw [d1, d2, d3]
  have g : ∃ k, m + X1 + (X2 + X3) + (X4 + X5 + (X6 + c7)) = 128 * k + (c0 + c1 + c2 + c3 + c4 + c5 + c6 + c7) := by
    refine ⟨2 * X1 + 2 * X2 + 2 * X3 + 2 * X4 + 2 * X5 + 2 * X6 + 2 * c7, ?_⟩
    omega
  obtain ⟨k, hk⟩ := g
  rw [hk]
  omega
theorem bcn_pop (n : Nat) : bcn n = pop 64 n := by
  have h8 : ∀ b, pop 8 (b % 256) ≤ 8 := fun b => (bt5 _ (Nat.mod_lt _ (by decide))).2
  rw [pop_sum]
  exact bcn_sum (h8 n) (h8 _) (h8 _) (h8 _) (h8 _) (h8 _) (h8 _) (h8 _) (r_all 7 n) (r_all 6 _) (r_all 5 _) (r_all 4 _) (r_all 3 _) (r_all 2 _) ((r_all 1 _).trans (by rw [r_all 0, show ∀ z, r3 0 z = 0 from fun z => by simp [r3, mf]]; omega))
