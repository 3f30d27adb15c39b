/-! filling a run of places; how many changed -/
def fillF (c : Int) : Nat → Int → (Nat → Int) → Nat → Int
  | 0, _, F => F
  | n + 1, k, F => fillF c n (k + 1) (jup F k.toNat c)
def cntF (c : Int) : Nat → Int → (Nat → Int) → Int
  | 0, _, _ => 0
  | n + 1, k, F => (if F k.toNat = c then 0 else 1) + cntF c n (k + 1) (jup F k.toNat c)
def boxF (c x : Int) (w : Nat) (b : Int) : Nat → Int → (Nat → Int) → Nat → Int
  | 0, _, F => F
  | n + 1, r, F => boxF c x w b n (r + 1) (fillF c w (b + 48 * r + x) F)
def boxN (c x : Int) (w : Nat) (b : Int) : Nat → Int → (Nat → Int) → Int
  | 0, _, _ => 0
  | n + 1, r, F => cntF c w (b + 48 * r + x) F + boxN c x w b n (r + 1) (fillF c w (b + 48 * r + x) F)
theorem jup_id {F : Nat → Int} {i : Nat} {v : Int} (h : F i = v) : jup F i v = F := by
  funext k
  unfold jup
  split
  · next e => rw [e, h]
  · rfl
theorem jup_rng {F : Nat → Int} {i : Nat} {v a b : Int} {n : Nat} (hF : ∀ k, k < n → a ≤ F k ∧ F k < b) (h1 : a ≤ v) (h2 : v < b) : ∀ k, k < n → a ≤ jup F i v k ∧ jup F i v k < b := by
  intro k hk
  unfold jup
  split
  · exact ⟨h1, h2⟩
  · exact hF k hk
theorem fillF_rng {c a b : Int} {m : Nat} (h1 : a ≤ c) (h2 : c < b) : ∀ (n : Nat) (k : Int) (F : Nat → Int), (∀ k, k < m → a ≤ F k ∧ F k < b) → ∀ k', k' < m → a ≤ fillF c n k F k' ∧ fillF c n k F k' < b
  | 0, _, _, hF => hF
  | n + 1, k, F, hF => fillF_rng h1 h2 n (k + 1) _ (jup_rng hF h1 h2)
theorem boxF_rng {c a b x w0 : Int} {m w : Nat} (h1 : a ≤ c) (h2 : c < b) : ∀ (n : Nat) (k : Int) (F : Nat → Int), (∀ k, k < m → a ≤ F k ∧ F k < b) → ∀ k', k' < m → a ≤ boxF c x w w0 n k F k' ∧ boxF c x w w0 n k F k' < b
  | 0, _, _, hF => hF
  | n + 1, k, F, hF => boxF_rng h1 h2 n (k + 1) _ (fillF_rng h1 h2 w _ F hF)
/-- the same in a longer array, from s on -/
theorem fillF_shift {c : Int} {s m : Nat} : ∀ (n : Nat) (k : Int) (F G : Nat → Int), 0 ≤ k → k + n ≤ m → (∀ j, j < m → G (s + j) = F j) →
    cntF c n (s + k) G = cntF c n k F ∧ (∀ j, j < m → fillF c n (s + k) G (s + j) = fillF c n k F j) ∧ ∀ j, (j < s ∨ s + m ≤ j) → fillF c n (s + k) G j = G j
  | 0, k, F, G, _, _, h => ⟨rfl, h, fun _ _ => rfl⟩
  | n + 1, k, F, G, h0, h1, h => by
    have e : ((s : Int) + k).toNat = s + k.toNat := by omega
    have hk : k.toNat < m := by omega
    have h' : ∀ j, j < m → jup G (s + k.toNat) c (s + j) = jup F k.toNat c j := by
      intro j hj
      unfold jup
      by_cases hjk : j = k.toNat
      · rw [if_pos (by omega), if_pos hjk]
      · rw [if_neg (by omega), if_neg hjk]; exact h j hj
    obtain ⟨a1, a2, a3⟩ := fillF_shift n (k + 1) (jup F k.toNat c) (jup G (s + k.toNat) c) (by omega) (by omega) h'
    have e2 : (s : Int) + k + 1 = s + (k + 1) := by omega
    refine ⟨?_, ?_, ?_⟩
    · show (if G ((s : Int) + k).toNat = c then 0 else 1) + cntF c n ((s : Int) + k + 1) (jup G ((s : Int) + k).toNat c) = (if F k.toNat = c then 0 else 1) + cntF c n (k + 1) (jup F k.toNat c)
      rw [e, e2, a1, h _ hk]
    · show ∀ j, j < m → fillF c n ((s : Int) + k + 1) (jup G ((s : Int) + k).toNat c) (s + j) = _
      rw [e, e2]
      exact a2
    · show ∀ j, (j < s ∨ s + m ≤ j) → fillF c n ((s : Int) + k + 1) (jup G ((s : Int) + k).toNat c) j = _
      rw [e, e2]
      intro j hj
      rw [a3 j hj, jup_ne _ _ (by omega)]
theorem boxF_shift {c x : Int} {s m w : Nat} : ∀ (n : Nat) (r : Int) (F G : Nat → Int), 0 ≤ r → 0 ≤ x → x + w ≤ 48 → 48 * (r + n) ≤ m → (∀ j, j < m → G (s + j) = F j) →
    boxN c x w s n r G = boxN c x w 0 n r F ∧ (∀ j, j < m → boxF c x w s n r G (s + j) = boxF c x w 0 n r F j) ∧ ∀ j, (j < s ∨ s + m ≤ j) → boxF c x w s n r G j = G j
  | 0, r, F, G, _, _, _, _, h => ⟨rfl, h, fun _ _ => rfl⟩
  | n + 1, r, F, G, h0, hx, hxw, h1, h => by
    obtain ⟨a1, a2, a3⟩ := fillF_shift (c := c) (s := s) (m := m) w (0 + 48 * r + x) F G (by omega) (by omega) h
    have e : (s : Int) + 48 * r + x = s + (0 + 48 * r + x) := by omega
    obtain ⟨b1, b2, b3⟩ := boxF_shift (c := c) (x := x) (s := s) (m := m) (w := w) n (r + 1) (fillF c w (0 + 48 * r + x) F) (fillF c w ((s : Int) + 48 * r + x) G) (by omega) hx hxw (by omega) (by rw [e]; exact a2)
    refine ⟨?_, b2, ?_⟩
    · show cntF c w ((s : Int) + 48 * r + x) G + boxN c x w s n (r + 1) (fillF c w ((s : Int) + 48 * r + x) G) = cntF c w (0 + 48 * r + x) F + boxN c x w 0 n (r + 1) (fillF c w (0 + 48 * r + x) F)
      rw [b1, e, a1]
    · intro j hj
      show boxF c x w s n (r + 1) (fillF c w ((s : Int) + 48 * r + x) G) j = _
      rw [b3 j hj, e, a3 j hj]
section BX
variable {V : Nat → Value} {W : xWt} {N : Nat} {h : xH} {S : Nat → Nat → Int} {T : Nat → Nat → Int64}
theorem p_needSpan (hW : xFix V W) {i a b : Int} {h : xH} (h1 : j32 i) (h2 : j32 a) (h3 : 0 ≤ b) (h4 : b < 2147483648) :
    W m_Room_needSpan (0, [some (.int (Int32.ofInt i)), some (.int (Int32.ofInt a)), some (.int (Int32.ofInt b))], []) h = if (0 ≤ i ∧ i ≤ b - 1) ∧ (1 ≤ a ∧ a ≤ b - i) then some (.inl none, h) else jX 9 h := by
  by_cases c1 : 0 ≤ i ∧ i ≤ b - 1
  · simp (disch := omega) only [↓reduceIte, S0, S1, J_lt, J_le, J_eq, J_ldI, J_ldI3, J_ldB, J_ldL, J_ldR, J_stI, J_stB, J_stL, J_dv, j_gne, C0, CM, CP, CR, CJ, CS, CL, and_self, and_true, true_and, and_false, false_and, or_true, true_or, or_false, false_or, not_true_eq_false, not_false_eq_true, Option.map_some, E_Room_needSpan hW, p_needBetween hW, c1, and_self, true_and, if_true]
    by_cases c2 : 1 ≤ a ∧ a ≤ b - i
    · simp (disch := omega) only [↓reduceIte, S0, S1, J_lt, J_le, J_eq, J_ldI, J_ldI3, J_ldB, J_ldL, J_ldR, J_stI, J_stB, J_stL, J_dv, j_gne, C0, CM, CP, CR, CJ, CS, CL, and_self, and_true, true_and, and_false, false_and, or_true, true_or, or_false, false_or, not_true_eq_false, not_false_eq_true, Option.map_some, E_Room_needSpan hW, c2, and_self, if_true]
    · simp (disch := omega) only [↓reduceIte, S0, S1, J_lt, J_le, J_eq, J_ldI, J_ldI3, J_ldB, J_ldL, J_ldR, J_stI, J_stB, J_stL, J_dv, j_gne, C0, CM, CP, CR, CJ, CS, CL, and_self, and_true, true_and, and_false, false_and, or_true, true_or, or_false, false_or, not_true_eq_false, not_false_eq_true, Option.map_some, E_Room_needSpan hW, c2, if_false, jX_ret X_Room_needSpan]
  · simp (disch := omega) only [↓reduceIte, S0, S1, J_lt, J_le, J_eq, J_ldI, J_ldI3, J_ldB, J_ldL, J_ldR, J_stI, J_stB, J_stL, J_dv, j_gne, C0, CM, CP, CR, CJ, CS, CL, and_self, and_true, true_and, and_false, false_and, or_true, true_or, or_false, false_or, not_true_eq_false, not_false_eq_true, Option.map_some, E_Room_needSpan hW, p_needBetween hW, c1, false_and, if_false, jX_ret X_Room_needSpan]
theorem p_boxRow (hW : xFix V W) {p x y w z c row : Int} {q : Nat} (hc : 0 ≤ c) (hc' : c < 64) : ∀ (n : Nat) (k cnt : Int) (F : Nat → Int) (h : xH), h.1 q = some (jA 0 3072 F) → (∀ j, j < 3072 → 0 ≤ F j ∧ F j < 64) → 0 ≤ k → k + n ≤ 3072 → row * 48 + x + w = k + n →
    W m_Room_box (60, [some (.ref N), some (.int (Int32.ofInt p)), some (.int (Int32.ofInt x)), some (.int (Int32.ofInt y)), some (.int (Int32.ofInt w)), some (.int (Int32.ofInt z)), some (.int (Int32.ofInt c)), some (.ref q), some (.int (Int32.ofInt cnt)), some (.int (Int32.ofInt row)), some (.int (Int32.ofInt k))], []) h =
      W m_Room_box (101, [some (.ref N), some (.int (Int32.ofInt p)), some (.int (Int32.ofInt x)), some (.int (Int32.ofInt y)), some (.int (Int32.ofInt w)), some (.int (Int32.ofInt z)), some (.int (Int32.ofInt c)), some (.ref q), some (.int (Int32.ofInt (cnt + cntF c n k F))), some (.int (Int32.ofInt row)), some (.int (Int32.ofInt (k + n)))], []) (xset h q (jA 0 3072 (fillF c n k F))) := by
  intro n
  induction n with
  | zero =>
    intro k cnt F h hq hF h0 h1 h2
    rw [L_Room_box_60 hW]
    have e1 : k + ((0 : Nat) : Int) = k := by omega
    have e2 : cnt + cntF c 0 k F = cnt := by show cnt + 0 = cnt; omega
    rw [e1, e2, show fillF c 0 k F = F from rfl, j_id h hq]
    simp (disch := omega) only [↓reduceIte, S0, S1, J_lt, J_le, J_eq, J_ldI, J_ldI3, J_ldB, J_ldL, J_ldR, J_stI, J_stB, J_stL, J_dv, j_gne, C0, CM, CP, CR, CJ, CS, CL, and_self, and_true, true_and, and_false, false_and, or_true, true_or, or_false, false_or, not_true_eq_false, not_false_eq_true, Option.map_some, if_pos]
  | succ n ih =>
    intro k cnt F h hq hF h0 h1 h2
    rw [L_Room_box_60 hW]
    have hb := hF k.toNat (by omega)
    by_cases e : F k.toNat = c
    · have ih1 := ih (k + 1) cnt F h hq hF (by omega) (by omega) (by omega)
      simp (disch := omega) only [↓reduceIte, S0, S1, J_lt, J_le, J_eq, J_ldI, J_ldI3, J_ldB, J_ldL, J_ldR, J_stI, J_stB, J_stL, J_dv, j_gne, C0, CM, CP, CR, CJ, CS, CL, and_self, and_true, true_and, and_false, false_and, or_true, true_or, or_false, false_or, not_true_eq_false, not_false_eq_true, Option.map_some, if_neg, E_Room_box hW, hq, e, if_true, ih1]
      have e3 : fillF c (n + 1) k F = fillF c n (k + 1) F := by show fillF c n (k + 1) (jup F k.toNat c) = _; rw [jup_id e]
      have e4 : cntF c (n + 1) k F = cntF c n (k + 1) F := by show (if F k.toNat = c then 0 else 1) + cntF c n (k + 1) (jup F k.toNat c) = _; rw [jup_id e, if_pos e]; omega
      rw [e3, e4, show k + 1 + (n : Int) = k + ((n + 1 : Nat) : Int) by omega]
    · have ih1 := ih (k + 1) (cnt + 1) (jup F k.toNat c) (xset h q (jA 0 3072 (jup F k.toNat c))) (j_get _ _ _) (jup_rng hF hc hc') (by omega) (by omega) (by omega)
      simp (disch := omega) only [↓reduceIte, S0, S1, J_lt, J_le, J_eq, J_ldI, J_ldI3, J_ldB, J_ldL, J_ldR, J_stI, J_stB, J_stL, J_dv, j_gne, C0, CM, CP, CR, CJ, CS, CL, and_self, and_true, true_and, and_false, false_and, or_true, true_or, or_false, false_or, not_true_eq_false, not_false_eq_true, Option.map_some, if_neg, E_Room_box hW, hq, e, if_false, ih1]
      have e4 : cnt + cntF c (n + 1) k F = cnt + 1 + cntF c n (k + 1) (jup F k.toNat c) := by show cnt + ((if F k.toNat = c then 0 else 1) + cntF c n (k + 1) (jup F k.toNat c)) = _; rw [if_neg e]; omega
      rw [e4, show k + 1 + (n : Int) = k + ((n + 1 : Nat) : Int) by omega]
      rfl
end BX
