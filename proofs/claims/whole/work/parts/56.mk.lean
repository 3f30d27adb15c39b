/-! cells that were reached -/
theorem lg_zero (y : Int64) : (lg_cmp y 0 = Int32.ofInt 0) = (y = 0) := by
  unfold lg_cmp
  apply propext
  constructor
  · intro e
    split at e
    · exact absurd e (by decide)
    · split at e
      · assumption
      · exact absurd e (by decide)
  · intro e
    subst e
    decide
theorem uN_zero {y : Int64} : y = 0 ↔ ∀ i, (uN y).testBit i = false := by
  constructor
  · intro e i
    subst e
    show (uN 0).testBit i = false
    rw [show uN 0 = 0 from rfl, Nat.zero_testBit]
  · intro e
    have h0 : uN y = 0 := Nat.eq_of_testBit_eq (fun i => by rw [e i, Nat.zero_testBit])
    have : y.toUInt64 = 0 := UInt64.toNat.inj h0
    have h2 : y = y.toUInt64.toInt64 := rfl
    rw [h2, this]
    rfl
/-- the least bit there is -/
theorem least_bit {n : Nat} (hn : ∃ i, n.testBit i = true) : ∃ c, n.testBit c = true ∧ ∀ i, i < c → n.testBit i = false := by
  obtain ⟨i, hi⟩ := hn
  induction i using Nat.strongRecOn with
  | _ i ih =>
    by_cases h : ∃ j, j < i ∧ n.testBit j = true
    · obtain ⟨j, hj, hj2⟩ := h
      exact ih j hj hj2
    · refine ⟨i, hi, fun j hj => ?_⟩
      cases hb : n.testBit j with
      | false => rfl
      | true => exact absurd ⟨j, hj, hb⟩ h
theorem uN_hi {y : Int64} {c : Nat} (h : (uN y).testBit c = true) : c < 64 := by
  rcases Nat.lt_or_ge c 64 with z | z
  · exact z
  · rw [Nat.testBit_lt_two_pow (Nat.lt_of_lt_of_le (uN_lt y) (Nat.pow_le_pow_right (n := 2) (i := 64) (by decide) z))] at h
    cases h
/-- how many are marked -/
def cq (F : Nat → Int) : Nat → Nat → Int
  | 0, _ => 0
  | n + 1, k => (if F k = -1 then 0 else 1) + cq F n (k + 1)
theorem cq_congr {F F' : Nat → Int} : ∀ (n k : Nat), (∀ q, k ≤ q → q < k + n → F q = F' q) → cq F n k = cq F' n k
  | 0, _, _ => rfl
  | n + 1, k, h => by
    show (if F k = -1 then 0 else 1) + cq F n (k + 1) = (if F' k = -1 then 0 else 1) + cq F' n (k + 1)
    rw [h k (by omega) (by omega), cq_congr n (k + 1) (fun q a b => h q (by omega) (by omega))]
/-- a cell's mark after a round: kept, or the least colour that reached it -/
def MR (G : Nat → Nat → Prop) (q : Nat) (a b : Int) : Prop := (a ≠ -1 ∧ b = a) ∨ (a = -1 ∧ b = -1 ∧ ∀ i, ¬ G q i) ∨ (a = -1 ∧ 0 ≤ b ∧ b < 64 ∧ G q b.toNat ∧ ∀ i, i < b.toNat → ¬ G q i)
section MK
variable {V : Nat → Value} {W : xWt} {N : Nat} {T : Nat → Nat → Int64}
theorem p_markLoop (hW : xFix V W) {p : Nat} (hp : p < 4) {C : Nat → Int} (hC : ∀ j, j < 3072 → 0 ≤ C j ∧ C j < 64) : ∀ (n k : Nat) (h : xH) (S : Nat → Nat → Int) (x : Int) (u : Option Value), HP N h S T → S (9 + 4 * p) = C → (∀ q, q < 3072 → -1 ≤ S (10 + 4 * p) q ∧ S (10 + 4 * p) q < 64) → k + n = 3072 →
    ∃ h' S', W m_Spr_markReached (4, [some (.ref (N + 24)), some (.ref (N + (8 + 4 * p))), some (.int (Int32.ofInt x)), some (.int (Int32.ofInt ((k : Int)))), u, none], []) h = some (.inl (some (jI (x + (cq (S' (10 + 4 * p)) n k - cq (S (10 + 4 * p)) n k)))), h') ∧ HP N h' S' T ∧ h'.2 = h.2 ∧ (∀ q, q < N → h'.1 q = h.1 q) ∧ (∀ j, j ≠ 10 + 4 * p → S' j = S j) ∧ (∀ q, q < k → S' (10 + 4 * p) q = S (10 + 4 * p) q) ∧ (∀ q, q < 3072 → -1 ≤ S' (10 + 4 * p) q ∧ S' (10 + 4 * p) q < 64) ∧ ∀ q, k ≤ q → q < 3072 → MR (fun q i => (uN (T 28 q &&& T 27 (C q).toNat)).testBit i = true) q (S (10 + 4 * p) q) (S' (10 + 4 * p) q) := by
  intro n
  induction n with
  | zero =>
    intro k h S x u H hS hL hk
    refine ⟨h, S, ?_, H, rfl, fun _ _ => rfl, fun _ _ => rfl, fun _ _ => rfl, hL, fun q a b => by omega⟩
    rw [L_Spr_markReached_4 hW, show x + (cq (S (10 + 4 * p)) 0 k - cq (S (10 + 4 * p)) 0 k) = x by omega]
    simp (disch := omega) only [↓reduceIte, S0, S1, J_lt, J_le, J_eq, J_ldI, J_ldI3, J_ldB, J_ldL, J_ldR, J_stI, J_stB, J_stL, J_dv, j_gne, C0, CM, CP, CR, CJ, CS, CL, and_self, and_true, true_and, and_false, false_and, or_true, true_or, or_false, false_or, not_true_eq_false, not_false_eq_true, Option.map_some, J_ltT, J_ltF, J_leT, J_leF, J_eqT, J_eqF, J_ntT, J_ntF, E_Spr_markReached hW]
  | succ n ih =>
    intro k h S x u H hS hL hk
    obtain ⟨c0, c1⟩ := hC k (by omega)
    obtain ⟨l0, l1⟩ := hL k (by omega)
    have hcol : W m_Job_colourAt (0, [some (.ref (N + (8 + 4 * p))), some (.int (Int32.ofInt ((k : Int))))], []) h = some (.inl (some (jI (C k))), h) := by
      simp (disch := omega) only [↓reduceIte, S0, S1, J_lt, J_le, J_eq, J_ldI, J_ldI3, J_ldB, J_ldL, J_ldR, J_stI, J_stB, J_stL, J_dv, j_gne, C0, CM, CP, CR, CJ, CS, CL, and_self, and_true, true_and, and_false, false_and, or_true, true_or, or_false, false_or, not_true_eq_false, not_false_eq_true, Option.map_some, J_ltT, J_ltF, J_leT, J_leF, J_eqT, J_eqF, J_ntT, J_ntF, E_Job_colourAt hW, H.get, Int.toNat_natCast, hS]
    have hlig : W m_Job_lighterAt (0, [some (.ref (N + (8 + 4 * p))), some (.int (Int32.ofInt ((k : Int))))], []) h = some (.inl (some (jI (S (10 + 4 * p) k))), h) := by
      simp (disch := omega) only [↓reduceIte, S0, S1, J_lt, J_le, J_eq, J_ldI, J_ldI3, J_ldB, J_ldL, J_ldR, J_stI, J_stB, J_stL, J_dv, j_gne, C0, CM, CP, CR, CJ, CS, CL, and_self, and_true, true_and, and_false, false_and, or_true, true_or, or_false, false_or, not_true_eq_false, not_false_eq_true, Option.map_some, J_ltT, J_ltF, J_leT, J_leF, J_eqT, J_eqF, J_ntT, J_ntF, E_Job_lighterAt hW, H.get, Int.toNat_natCast]
    by_cases z : T 28 k &&& T 27 (C k).toNat ≠ 0 ∧ S (10 + 4 * p) k = -1
    · obtain ⟨z1, z2⟩ := z
      have hex : ∃ i, (uN (T 28 k &&& T 27 (C k).toNat)).testBit i = true := by
        apply Classical.byContradiction
        intro hn
        refine z1 (uN_zero.mpr (fun i => ?_))
        cases hb : (uN (T 28 k &&& T 27 (C k).toNat)).testBit i with
        | false => rfl
        | true => exact absurd ⟨i, hb⟩ hn
      obtain ⟨c, b1, b2⟩ := least_bit hex
      have c64 := uN_hi b1
      have H1 := H.put (k := 10 + 4 * p) (by omega) (jup (S (10 + 4 * p)) k (c : Int)) (e := jA 0 3072 (jup (S (10 + 4 * p)) k (c : Int))) (cell_job N _ _ hp).2.2.1.symm
      have nz := p_ntz hW (x := T 28 k &&& T 27 (C k).toNat) (c := c) (h := h) b1 b2 c64
      have hset : W m_Job_setLighter (0, [some (.ref (N + (8 + 4 * p))), some (.int (Int32.ofInt ((k : Int)))), some (.int (Int32.ofInt ((c : Int))))], []) h = some (.inl none, xset h (N + (10 + 4 * p)) (jA 0 3072 (jup (S (10 + 4 * p)) k (c : Int)))) := by
        simp (disch := omega) only [↓reduceIte, S0, S1, J_lt, J_le, J_eq, J_ldI, J_ldI3, J_ldB, J_ldL, J_ldR, J_stI, J_stB, J_stL, J_dv, j_gne, C0, CM, CP, CR, CJ, CS, CL, and_self, and_true, true_and, and_false, false_and, or_true, true_or, or_false, false_or, not_true_eq_false, not_false_eq_true, Option.map_some, J_ltT, J_ltF, J_leT, J_leF, J_eqT, J_eqF, J_ntT, J_ntF, E_Job_setLighter hW, H.get, Int.toNat_natCast]
      obtain ⟨h', S', r1, r2, r3, r4, r5, r6, r7, r8⟩ := ih (k + 1) _ _ (x + 1) (some (.long (T 28 k &&& T 27 (C k).toNat))) H1 (by rw [sup_ne _ _ (by omega)]; exact hS) (fun q hq => by rw [sup_same]; have := hL q hq; unfold jup; split <;> omega) (by omega)
      rw [sup_same] at r1 r6 r8
      rw [show (((k + 1 : Nat) : Int)) = (k : Int) + 1 by omega] at r1
      have sk : S' (10 + 4 * p) k = (c : Int) := by rw [r6 k (by omega), jup_same]
      have ec : cq (jup (S (10 + 4 * p)) k (c : Int)) n (k + 1) = cq (S (10 + 4 * p)) n (k + 1) := cq_congr n (k + 1) (fun q a b => jup_ne _ _ (by omega))
      refine ⟨h', S', ?_, r2, r3.trans rfl, fun q hq => by rw [r4 q hq, j_gne _ _ (by omega)], fun j hj => by rw [r5 j hj, sup_ne _ _ hj], fun q hq => by rw [r6 q (by omega), jup_ne _ _ (by omega)], r7, fun q a b => ?_⟩
      · have ex : x + (cq (S' (10 + 4 * p)) (n + 1) k - cq (S (10 + 4 * p)) (n + 1) k) = x + 1 + (cq (S' (10 + 4 * p)) n (k + 1) - cq (jup (S (10 + 4 * p)) k (c : Int)) n (k + 1)) := by
          show x + ((if S' (10 + 4 * p) k = -1 then 0 else 1) + cq (S' (10 + 4 * p)) n (k + 1) - ((if S (10 + 4 * p) k = -1 then 0 else 1) + cq (S (10 + 4 * p)) n (k + 1))) = _
          rw [ec, sk, z2, if_neg (by omega), if_pos rfl]
          omega
        rw [L_Spr_markReached_4 hW, ex, ← r1]
        simp (disch := omega) only [↓reduceIte, S0, S1, J_lt, J_le, J_eq, J_ldI, J_ldI3, J_ldB, J_ldL, J_ldR, J_stI, J_stB, J_stL, J_dv, j_gne, C0, CM, CP, CR, CJ, CS, CL, and_self, and_true, true_and, and_false, false_and, or_true, true_or, or_false, false_or, not_true_eq_false, not_false_eq_true, Option.map_some, J_ltT, J_ltF, J_leT, J_leF, J_eqT, J_eqF, J_ntT, J_ntF, E_Spr_markReached hW, H.get, Int.toNat_natCast, hcol, lg_zero, z1, hlig, z2, nz, hset]
      · by_cases e : q = k
        · subst e
          exact Or.inr (Or.inr ⟨z2, by rw [sk]; omega, by rw [sk]; omega, by rw [sk, Int.toNat_natCast]; exact b1, fun i hi => by rw [sk, Int.toNat_natCast] at hi; simp [b2 i hi]⟩)
        · have := r8 q (by omega) b
          rwa [jup_ne _ _ e] at this
    · obtain ⟨h', S', r1, r2, r3, r4, r5, r6, r7, r8⟩ := ih (k + 1) h S x (some (.long (T 28 k &&& T 27 (C k).toNat))) H hS hL (by omega)
      rw [show (((k + 1 : Nat) : Int)) = (k : Int) + 1 by omega] at r1
      have sk : S' (10 + 4 * p) k = S (10 + 4 * p) k := r6 k (by omega)
      refine ⟨h', S', ?_, r2, r3, r4, r5, fun q hq => r6 q (by omega), r7, fun q a b => ?_⟩
      · have ex : x + (cq (S' (10 + 4 * p)) (n + 1) k - cq (S (10 + 4 * p)) (n + 1) k) = x + (cq (S' (10 + 4 * p)) n (k + 1) - cq (S (10 + 4 * p)) n (k + 1)) := by
          show x + ((if S' (10 + 4 * p) k = -1 then 0 else 1) + cq (S' (10 + 4 * p)) n (k + 1) - ((if S (10 + 4 * p) k = -1 then 0 else 1) + cq (S (10 + 4 * p)) n (k + 1))) = _
          rw [sk]
          omega
        rw [L_Spr_markReached_4 hW, ex, ← r1]
        by_cases z1 : T 28 k &&& T 27 (C k).toNat = 0
        · simp (disch := omega) only [↓reduceIte, S0, S1, J_lt, J_le, J_eq, J_ldI, J_ldI3, J_ldB, J_ldL, J_ldR, J_stI, J_stB, J_stL, J_dv, j_gne, C0, CM, CP, CR, CJ, CS, CL, and_self, and_true, true_and, and_false, false_and, or_true, true_or, or_false, false_or, not_true_eq_false, not_false_eq_true, Option.map_some, J_ltT, J_ltF, J_leT, J_leF, J_eqT, J_eqF, J_ntT, J_ntF, E_Spr_markReached hW, H.get, Int.toNat_natCast, hcol, lg_zero, z1]
        · have z2 : ¬ S (10 + 4 * p) k = -1 := fun q => z ⟨z1, q⟩
          simp (disch := omega) only [↓reduceIte, S0, S1, J_lt, J_le, J_eq, J_ldI, J_ldI3, J_ldB, J_ldL, J_ldR, J_stI, J_stB, J_stL, J_dv, j_gne, C0, CM, CP, CR, CJ, CS, CL, and_self, and_true, true_and, and_false, false_and, or_true, true_or, or_false, false_or, not_true_eq_false, not_false_eq_true, Option.map_some, J_ltT, J_ltF, J_leT, J_leF, J_eqT, J_eqF, J_ntT, J_ntF, E_Spr_markReached hW, H.get, Int.toNat_natCast, hcol, lg_zero, z1, hlig]
      · by_cases e : q = k
        · subst e
          by_cases z2 : S (10 + 4 * p) q = -1
          · have z1 : T 28 q &&& T 27 (C q).toNat = 0 := Classical.byContradiction (fun y => z ⟨y, z2⟩)
            refine Or.inr (Or.inl ⟨z2, by rw [sk, z2], fun i => ?_⟩)
            show ¬ ((uN (T 28 q &&& T 27 (C q).toNat)).testBit i = true)
            rw [uN_zero.mp z1 i]
            decide
          · exact Or.inl ⟨z2, sk⟩
        · exact r8 q (by omega) b
end MK
