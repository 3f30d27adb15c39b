/-! a page's job is made -/
def jcp (F F' : Nat → Int) (n : Nat) : Nat → Int := fun k => if k < n then F k else F' k
theorem J_cp {n0 n1 d : Nat} {F F' : Nat → Int} {h : xH} {n : Int} (hn : 0 ≤ n ∧ n ≤ n0 ∧ n ≤ n1 ∧ n < 2147483648) : xcp (some (jA 0 n0 F)) (some (jA 0 n1 F')) h (Int32.ofInt 0) d (Int32.ofInt 0) (Int32.ofInt n) = some (xset h d (jA 0 n1 (jcp F F' n.toNat))) := by
  have e0 : (Int32.ofInt 0).toNatClampNeg = 0 := by decide
  have en : (Int32.ofInt n).toNatClampNeg = n.toNat := j_clamp (by omega) (by omega)
  have ez : ¬ (Int32.ofInt n < 0) := by
    have e : (0 : Int32) = Int32.ofInt 0 := rfl
    rw [e, j_lt (by omega) (by omega) (by omega) (by omega)]; omega
  have e00 : ¬ (Int32.ofInt 0 < 0) := by decide
  show (if Int32.ofInt 0 < 0 ∨ Int32.ofInt 0 < 0 ∨ Int32.ofInt n < 0 ∨ n0 < (Int32.ofInt 0).toNatClampNeg + (Int32.ofInt n).toNatClampNeg ∨ n1 < (Int32.ofInt 0).toNatClampNeg + (Int32.ofInt n).toNatClampNeg then none else some (xset h d (xA 0 n1 (xint (va_cpy (fun k => Int32.ofInt (F k)) (fun k => Int32.ofInt (F' k)) (Int32.ofInt 0).toNatClampNeg (Int32.ofInt 0).toNatClampNeg (Int32.ofInt n).toNatClampNeg))))) = _
  rw [e0, en, if_neg (by rintro (z | z | z | z | z) <;> first | exact e00 z | exact ez z | omega)]
  congr 2
  unfold jA jcp va_cpy
  congr 3
  funext k
  by_cases hk : k < n.toNat
  · rw [if_pos hk, if_pos (by omega)]; simp
  · rw [if_neg hk, if_neg (by omega)]
def orL (C : Nat → Int) : Nat → Int → Int64 → Int64
  | 0, _, x => x
  | n + 1, k, x => orL C n (k + 1) (x ||| ((1 : Int64) <<< (Int32.toInt64 (Int32.ofInt (C k.toNat)) &&& 63)))
/-- which colours are there -/
def usd (C : Nat → Int) : Nat → Int → (Nat → Bool) → Nat → Bool
  | 0, _, g => g
  | n + 1, k, g => usd C n (k + 1) (fun c => if c = (C k.toNat).toNat then true else g c)
theorem uN_or (x y : Int64) : uN (x ||| y) = uN x ||| uN y := by
  show ((x ||| y).toUInt64).toNat = _
  rw [show (x ||| y).toUInt64 = x.toUInt64 ||| y.toUInt64 from rfl, UInt64.toNat_or]
  rfl
theorem uN_bit0 : ∀ k, k < 64 → uN ((1 : Int64) <<< (Int32.toInt64 (Int32.ofInt ((k : Nat) : Int)) &&& 63)) = 2 ^ k := by decide +kernel
theorem uN_bit {k : Int} (h0 : 0 ≤ k) (h1 : k < 64) : uN ((1 : Int64) <<< (Int32.toInt64 (Int32.ofInt k) &&& 63)) = 2 ^ k.toNat := by
  have := uN_bit0 k.toNat (by omega)
  rwa [show ((k.toNat : Nat) : Int) = k by omega] at this
theorem orL_usd {C : Nat → Int} {m : Nat} (hC : ∀ j, j < m → 0 ≤ C j ∧ C j < 64) : ∀ (n : Nat) (k : Int) (x : Int64) (g : Nat → Bool), 0 ≤ k → k + n ≤ m → (∀ c, (uN x).testBit c = g c) → ∀ c, (uN (orL C n k x)).testBit c = usd C n k g c
  | 0, _, _, _, _, _, h => h
  | n + 1, k, x, g, h0, h1, h => by
    refine orL_usd hC n (k + 1) _ _ (by omega) (by omega) (fun c => ?_)
    obtain ⟨a, b⟩ := hC k.toNat (by omega)
    rw [uN_or, Nat.testBit_or, uN_bit a b, Nat.testBit_two_pow, h c]
    by_cases e : c = (C k.toNat).toNat
    · rw [if_pos e, e]; simp
    · rw [if_neg e]; simp [Ne.symm e]
def cntB (g : Nat → Bool) : Nat → Nat → Nat
  | 0, _ => 0
  | k + 1, c => (if g c then 1 else 0) + cntB g k (c + 1)
theorem pop_cnt (n : Nat) : ∀ (k c : Nat), pop k (n / 2 ^ c) = cntB n.testBit k c
  | 0, _ => rfl
  | k + 1, c => by
    show n / 2 ^ c % 2 + pop k (n / 2 ^ c / 2) = (if n.testBit c then 1 else 0) + cntB n.testBit k (c + 1)
    rw [Nat.div_div_eq_div_mul, ← Nat.pow_succ, pop_cnt n k (c + 1), Nat.testBit_eq_decide_div_mod_eq]
    have : n / 2 ^ c % 2 < 2 := Nat.mod_lt _ (by decide)
    by_cases e : n / 2 ^ c % 2 = 1
    · simp [e]
    · simp [e]; omega
theorem cntB_congr {g g' : Nat → Bool} : ∀ (k c : Nat), (∀ q, c ≤ q → q < c + k → g q = g' q) → cntB g k c = cntB g' k c
  | 0, _, _ => rfl
  | k + 1, c, h => by
    show (if g c then 1 else 0) + cntB g k (c + 1) = (if g' c then 1 else 0) + cntB g' k (c + 1)
    rw [h c (by omega) (by omega), cntB_congr k (c + 1) (fun q h1 h2 => h q (by omega) (by omega))]
/-- the parting of all colours, from c on -/
def clF (s l : Int) : Nat → Int → (Nat → Int) → Nat → Int
  | 0, _, A => A
  | n + 1, c, A => clF s l n (c + 1) (klm (mtb A (c * 8) s) (c * 8) l)
theorem mtb_rng {A : Nat → Int} {f s : Int} (hf : 0 ≤ f ∧ f + 8 ≤ 512) (hs : 0 ≤ s ∧ s ≤ 100) (hA : ∀ j, j < 512 → 0 ≤ A j ∧ A j ≤ 255) : ∀ j, j < 512 → 0 ≤ mtb A f s j ∧ mtb A f s j ≤ 255 := by
  have h0 := hA f.toNat (by omega)
  have h1 := hA (f + 1).toNat (by omega)
  have h2 := hA (f + 2).toNat (by omega)
  have h3 := hA (f + 3).toNat (by omega)
  obtain ⟨g1, g2, g3, g4, g5, g6, g7⟩ := gy_rng h0 h1 h2 h3 hs
  intro j hj
  have := hA j hj
  unfold mtb jup
  repeat' split
  all_goals omega
theorem part_le {a r s : Int} (h0 : 0 ≤ a) (h1 : a ≤ s) (h2 : 0 ≤ r) (h3 : 0 < s) (h4 : r ≤ s) : 0 ≤ a * r / s ∧ a * r / s ≤ a := by
  have e1 : 0 ≤ a * r := Int.mul_nonneg h0 h2
  have e2 : a * r ≤ a * s := Int.mul_le_mul_of_nonneg_left h4 h0
  exact ⟨Int.ediv_nonneg e1 (by omega), by
    have := Int.ediv_le_ediv h3 e2
    rwa [Int.mul_ediv_cancel _ (by omega)] at this⟩
theorem klm_rng {A : Nat → Int} {f l : Int} (hf : 0 ≤ f ∧ f + 8 ≤ 512) (hl : 200 ≤ l ∧ l ≤ 1020) (hA : ∀ j, j < 512 → 0 ≤ A j ∧ A j ≤ 255) : ∀ j, j < 512 → 0 ≤ klm A f l j ∧ klm A f l j ≤ 255 := by
  have h0 := hA f.toNat (by omega)
  have h1 := hA (f + 1).toNat (by omega)
  have h2 := hA (f + 2).toNat (by omega)
  have h3 := hA (f + 3).toNat (by omega)
  intro j hj
  have hj' := hA j hj
  unfold klm
  split
  · exact hj'
  · next hc =>
    have rm : 0 ≤ mx (l - A (f + 3).toNat) 0 ∧ mx (l - A (f + 3).toNat) 0 ≤ A f.toNat + A (f + 1).toNat + A (f + 2).toNat := by unfold mx; split <;> omega
    have q0 := part_le h0.1 (show A f.toNat ≤ A f.toNat + A (f + 1).toNat + A (f + 2).toNat by omega) rm.1 (by omega) rm.2
    have q1 := part_le h1.1 (show A (f + 1).toNat ≤ A f.toNat + A (f + 1).toNat + A (f + 2).toNat by omega) rm.1 (by omega) rm.2
    have q2 := part_le h2.1 (show A (f + 2).toNat ≤ A f.toNat + A (f + 1).toNat + A (f + 2).toNat by omega) rm.1 (by omega) rm.2
    generalize A f.toNat * mx (l - A (f + 3).toNat) 0 / (A f.toNat + A (f + 1).toNat + A (f + 2).toNat) = z0 at *
    generalize A (f + 1).toNat * mx (l - A (f + 3).toNat) 0 / (A f.toNat + A (f + 1).toNat + A (f + 2).toNat) = z1 at *
    generalize A (f + 2).toNat * mx (l - A (f + 3).toNat) 0 / (A f.toNat + A (f + 1).toNat + A (f + 2).toNat) = z2 at *
    unfold jup
    repeat' split
    all_goals omega
section SE
variable {V : Nat → Value} {W : xWt} {N : Nat} {S : Nat → Nat → Int} {T : Nat → Nat → Int64}
theorem p_countLoop (hW : xFix V W) {p : Nat} (hp : p < 4) {FJ : Nat → Int} {GJ : Nat → Int64} {C : Nat → Int} {h : xH} (ho : h.1 (N + (8 + 4 * p)) = some (cell N (8 + 4 * p) FJ GJ)) (hc : h.1 (N + (9 + 4 * p)) = some (jA 0 3072 C)) (hC : ∀ j, j < 3072 → 0 ≤ C j ∧ C j < 64) : ∀ (n : Nat) (k : Int) (x : Int64), 0 ≤ k → k + n = 3072 →
    W m_Job_countColours (4, [some (.ref (N + (8 + 4 * p))), some (.long x), none, some (.int (Int32.ofInt k))], []) h = some (.inl (some (jI ((pop 64 (uN (orL C n k x)) : Nat) : Int))), h) := by
  intro n
  induction n with
  | zero =>
    intro k x h0 h1
    rw [L_Job_countColours_4 hW]
    simp (disch := omega) only [↓reduceIte, S0, S1, J_lt, J_le, J_eq, J_ldI, J_ldI3, J_ldB, J_ldL, J_ldR, J_stI, J_stB, J_stL, J_dv, j_gne, C0, CM, CP, CR, CJ, CS, CL, and_self, and_true, true_and, and_false, false_and, or_true, true_or, or_false, false_or, not_true_eq_false, not_false_eq_true, Option.map_some, J_ltT, J_ltF, J_leT, J_leF, J_eqT, J_eqF, J_ntT, J_ntF, E_Job_countColours hW, p_bitCount hW]
    rfl
  | succ n ih =>
    intro k x h0 h1
    rw [L_Job_countColours_4 hW]
    have ih1 := ih (k + 1) (x ||| ((1 : Int64) <<< (Int32.toInt64 (Int32.ofInt (C k.toNat)) &&& 63))) (by omega) (by omega)
    simp (disch := omega) only [↓reduceIte, S0, S1, J_lt, J_le, J_eq, J_ldI, J_ldI3, J_ldB, J_ldL, J_ldR, J_stI, J_stB, J_stL, J_dv, j_gne, C0, CM, CP, CR, CJ, CS, CL, and_self, and_true, true_and, and_false, false_and, or_true, true_or, or_false, false_or, not_true_eq_false, not_false_eq_true, Option.map_some, J_ltT, J_ltF, J_leT, J_leF, J_eqT, J_eqF, J_ntT, J_ntF, E_Job_countColours hW, ho, hc, ih1]
    rfl
theorem p_makeLoop (hW : xFix V W) {p : Nat} (hp : p < 4) {FJ : Nat → Int} {GJ : Nat → Int64} {s l : Int} {a b : Nat} (hs : 0 ≤ s ∧ s ≤ 100) (hl : 200 ≤ l ∧ l ≤ 1020) : ∀ (n : Nat) (c : Int) (A : Nat → Int) (h : xH), h.1 (N + (8 + 4 * p)) = some (cell N (8 + 4 * p) FJ GJ) → h.1 (N + (11 + 4 * p)) = some (jA 0 512 A) → (∀ j, j < 512 → 0 ≤ A j ∧ A j ≤ 255) → 0 ≤ c → c + n = 64 →
    W m_Job_make (39, [some (.ref (N + (8 + 4 * p))), some (.ref a), some (.ref b), some (.int (Int32.ofInt s)), some (.int (Int32.ofInt l)), some (.int (Int32.ofInt c))], []) h = W m_Job_make (73, [some (.ref (N + (8 + 4 * p))), some (.ref a), some (.ref b), some (.int (Int32.ofInt s)), some (.int (Int32.ofInt l)), some (.int (Int32.ofInt 64))], []) (xset h (N + (11 + 4 * p)) (jA 0 512 (clF s l n c A))) := by
  intro n
  induction n with
  | zero =>
    intro c A h ho ha hA h0 h1
    have e : c = 64 := by omega
    subst e
    rw [L_Job_make_39 hW, show clF s l 0 64 A = A from rfl, j_id h ha]
    simp (disch := omega) only [↓reduceIte, S0, S1, J_lt, J_le, J_eq, J_ldI, J_ldI3, J_ldB, J_ldL, J_ldR, J_stI, J_stB, J_stL, J_dv, j_gne, C0, CM, CP, CR, CJ, CS, CL, and_self, and_true, true_and, and_false, false_and, or_true, true_or, or_false, false_or, not_true_eq_false, not_false_eq_true, Option.map_some, J_ltT, J_ltF, J_leT, J_leF, J_eqT, J_eqF, J_ntT, J_ntF]
  | succ n ih =>
    intro c A h ho ha hA h0 h1
    rw [L_Job_make_39 hW]
    have hA1 := mtb_rng (A := A) (f := c * 8) (s := s) (by omega) hs hA
    have hA2 := klm_rng (A := mtb A (c * 8) s) (f := c * 8) (l := l) (by omega) hl hA1
    have r1 := p_moveToBlack hW hp ho ha (f := c * 8) (s := s) (by omega) hs hA
    have r2 := p_keepLimit hW hp (h := xset h (N + (11 + 4 * p)) (jA 0 512 (mtb A (c * 8) s))) (by rw [j_gne _ _ (by omega)]; exact ho) (j_get _ _ _) (f := c * 8) (l := l) (by omega) hl hA1
    have ih1 := ih (c + 1) (klm (mtb A (c * 8) s) (c * 8) l) (xset h (N + (11 + 4 * p)) (jA 0 512 (klm (mtb A (c * 8) s) (c * 8) l))) (by rw [j_gne _ _ (by omega)]; exact ho) (j_get _ _ _) hA2 (by omega) (by omega)
    simp (disch := omega) only [↓reduceIte, S0, S1, J_lt, J_le, J_eq, J_ldI, J_ldI3, J_ldB, J_ldL, J_ldR, J_stI, J_stB, J_stL, J_dv, j_gne, C0, CM, CP, CR, CJ, CS, CL, and_self, and_true, true_and, and_false, false_and, or_true, true_or, or_false, false_or, not_true_eq_false, not_false_eq_true, Option.map_some, J_ltT, J_ltF, J_leT, J_leF, J_eqT, J_eqF, J_ntT, J_ntF, E_Job_make hW, ho, r1, r2, ih1]
    rfl
end SE
