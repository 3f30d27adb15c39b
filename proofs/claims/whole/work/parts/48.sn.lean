/-! the reference folds all leaves together -/
def mo (d : Nat → Int) : Nat → Nat → Int → Int
  | 0, _, m => m
  | n + 1, s, m => mo d n (s + 1) (if m < d s then d s else m)
/-- the arrays hold these leaves -/
def PW (S : Nat → Nat → Int) (s : Nat) (L : Int × Int × Int × Int × Int) : Prop := S 98 s = L.1 ∧ S 99 s = L.2.1 ∧ S 100 s = L.2.2.1 ∧ S 96 s = L.2.2.2.1 ∧ S 97 s = L.2.2.2.2
def oth (k : Nat) : Prop := k ≠ 96 ∧ k ≠ 97 ∧ k ≠ 98 ∧ k ≠ 99 ∧ k ≠ 100
section SN
variable {V : Nat → Value} {W : xWt} {N : Nat} {T : Nat → Nat → Int64}
theorem q_most (hW : xFix V W) {h : xH} {S : Nat → Nat → Int} (H : HP N h S T) {ac z : Int} {l : Nat} (hl : l ≤ 16) (hS : S 78 23 = l) (hd : ∀ s, s < l → 0 ≤ S 100 s ∧ S 100 s ≤ 100) : ∀ (n s : Nat) (m : Int), s + n = l → 0 ≤ m ∧ m ≤ 100 →
    W m_Mod_fold (5, [some (.ref (N + 78)), some (.int (Int32.ofInt ac)), some (.int (Int32.ofInt z)), some (.int (Int32.ofInt m)), some (.int (Int32.ofInt s)), none], []) h = W m_Mod_fold (46, [some (.ref (N + 78)), some (.int (Int32.ofInt ac)), some (.int (Int32.ofInt z)), some (.int (Int32.ofInt (mo (S 100) n s m))), some (.int (Int32.ofInt 0)), none], []) h := by
  intro n
  induction n with
  | zero =>
    intro s m hs hm
    have e : s = l := by omega
    subst e
    rw [L_Mod_fold_5 hW]
    simp (disch := omega) only [↓reduceIte, S0, S1, J_lt, J_le, J_eq, J_ldI, J_ldI3, J_ldB, J_ldL, J_ldR, J_stI, J_stB, J_stL, J_dv, j_gne, C0, CM, CP, CR, CJ, CS, CL, and_self, and_true, true_and, and_false, false_and, or_true, true_or, or_false, false_or, not_true_eq_false, not_false_eq_true, Option.map_some, J_ltT, J_ltF, J_leT, J_leF, J_eqT, J_eqF, J_ntT, J_ntF, E_Mod_fold hW, H.get, hS]
    rfl
  | succ n ih =>
    intro s m hs hm
    have d1 := hd s (by omega)
    rw [L_Mod_fold_5 hW]
    by_cases e : m < S 100 s
    · have ih1 := ih (s + 1) (S 100 s) (by omega) (by omega)
      rw [show (((s + 1 : Nat) : Int)) = (s : Int) + 1 by omega] at ih1
      have em : mo (S 100) (n + 1) s m = mo (S 100) n (s + 1) (S 100 s) := by show mo (S 100) n (s + 1) (if m < S 100 s then S 100 s else m) = _; rw [if_pos e]
      rw [em]
      simp (disch := omega) only [↓reduceIte, S0, S1, J_lt, J_le, J_eq, J_ldI, J_ldI3, J_ldB, J_ldL, J_ldR, J_stI, J_stB, J_stL, J_dv, j_gne, C0, CM, CP, CR, CJ, CS, CL, and_self, and_true, true_and, and_false, false_and, or_true, true_or, or_false, false_or, not_true_eq_false, not_false_eq_true, Option.map_some, J_ltT, J_ltF, J_leT, J_leF, J_eqT, J_eqF, J_ntT, J_ntF, E_Mod_fold hW, H.get, hS, Int.toNat_natCast, ih1]
    · have ih1 := ih (s + 1) m (by omega) hm
      rw [show (((s + 1 : Nat) : Int)) = (s : Int) + 1 by omega] at ih1
      have em : mo (S 100) (n + 1) s m = mo (S 100) n (s + 1) m := by show mo (S 100) n (s + 1) (if m < S 100 s then S 100 s else m) = _; rw [if_neg e]
      rw [em]
      simp (disch := omega) only [↓reduceIte, S0, S1, J_lt, J_le, J_eq, J_ldI, J_ldI3, J_ldB, J_ldL, J_ldR, J_stI, J_stB, J_stL, J_dv, j_gne, C0, CM, CP, CR, CJ, CS, CL, and_self, and_true, true_and, and_false, false_and, or_true, true_or, or_false, false_or, not_true_eq_false, not_false_eq_true, Option.map_some, J_ltT, J_ltF, J_leT, J_leF, J_eqT, J_eqF, J_ntT, J_ntF, E_Mod_fold hW, H.get, hS, Int.toNat_natCast, ih1]
theorem q_foldA (hW : xFix V W) {h : xH} {S : Nat → Nat → Int} (H : HP N h S T) {z pile : Int} {l s : Nat} (hl : l ≤ 16) (hS : S 78 23 = l) (hs : s < l) (hz : 0 ≤ z ∧ z ≤ 100) (hc : 0 ≤ S 98 s ∧ S 98 s ≤ 100) (u : Option Value) :
    ∃ h' S' u', W m_Mod_fold (46, [some (.ref (N + 78)), some (.int (Int32.ofInt 1)), some (.int (Int32.ofInt z)), some (.int (Int32.ofInt (pile - 1))), some (.int (Int32.ofInt s)), u], []) h = W m_Mod_fold (46, [some (.ref (N + 78)), some (.int (Int32.ofInt 1)), some (.int (Int32.ofInt z)), some (.int (Int32.ofInt (pile - 1))), some (.int (Int32.ofInt ((s : Int) + 1))), u'], []) h' ∧ HP N h' S' T ∧ h'.2 = h.2 ∧ (∀ k, oth k → S' k = S k) ∧ (∀ q k, q ≠ s → S' k q = S k q) ∧ PW S' s (fR z pile (S 98 s, S 99 s, S 100 s, S 96 s, S 97 s)) := by
  rw [L_Mod_fold_46 hW]
  by_cases e : S 98 s < z / 2
  · have H1 := H.put (k := 100) (by omega) (jup (S 100) s (S 100 s + (pile - 1 + 1))) (e := jA 0 16 (jup (S 100) s (S 100 s + (pile - 1 + 1)))) rfl
    refine ⟨_, _, some (.int (Int32.ofInt (S 98 s))), ?_, H1, rfl, fun k hk => sup_ne _ _ hk.2.2.2.2, fun q k hq => ?_, ?_⟩
    · simp (disch := omega) only [↓reduceIte, S0, S1, J_lt, J_le, J_eq, J_ldI, J_ldI3, J_ldB, J_ldL, J_ldR, J_stI, J_stB, J_stL, J_dv, j_gne, C0, CM, CP, CR, CJ, CS, CL, and_self, and_true, true_and, and_false, false_and, or_true, true_or, or_false, false_or, not_true_eq_false, not_false_eq_true, Option.map_some, J_ltT, J_ltF, J_leT, J_leF, J_eqT, J_eqF, J_ntT, J_ntF, E_Mod_fold hW, E_Mod_fold_p1 hW, H.get, hS, Int.toNat_natCast, J_div]
    · unfold sup; split
      · next e => rw [jup_ne _ _ hq, e]
      · rfl
    · unfold fR PW
      rw [if_pos e, sup_same, jup_same, sup_ne _ _ (by decide), sup_ne _ _ (by decide), sup_ne _ _ (by decide), sup_ne _ _ (by decide)]
      exact ⟨rfl, rfl, by show S 100 s + (pile - 1 + 1) = S 100 s + pile; omega, rfl, rfl⟩
  · have H1 := H.put (k := 100) (by omega) (jup (S 100) s (pile - 1 - S 100 s)) (e := jA 0 16 (jup (S 100) s (pile - 1 - S 100 s))) rfl
    have H2 := H1.put (k := 96) (by omega) (jup (S 96) s (1 - S 96 s)) (e := jA 0 16 (jup (S 96) s (1 - S 96 s))) rfl
    have H3 := H2.put (k := 97) (by omega) (jup (S 97) s (S 97 s)) (e := jA 0 16 (jup (S 97) s (S 97 s))) rfl
    have H4 := H3.put (k := 98) (by omega) (jup (S 98) s (z - 1 - S 98 s)) (e := jA 0 16 (jup (S 98) s (z - 1 - S 98 s))) rfl
    refine ⟨_, _, some (.int (Int32.ofInt (S 98 s))), ?_, H4, rfl, fun k hk => ?_, fun q k hq => ?_, ?_⟩
    · simp (disch := omega) only [↓reduceIte, S0, S1, J_lt, J_le, J_eq, J_ldI, J_ldI3, J_ldB, J_ldL, J_ldR, J_stI, J_stB, J_stL, J_dv, j_gne, C0, CM, CP, CR, CJ, CS, CL, and_self, and_true, true_and, and_false, false_and, or_true, true_or, or_false, false_or, not_true_eq_false, not_false_eq_true, Option.map_some, J_ltT, J_ltF, J_leT, J_leF, J_eqT, J_eqF, J_ntT, J_ntF, E_Mod_fold hW, E_Mod_fold_p1 hW, H.get, hS, Int.toNat_natCast, J_div]
    · rw [sup_ne _ _ hk.2.2.1, sup_ne _ _ hk.2.1, sup_ne _ _ hk.1, sup_ne _ _ hk.2.2.2.2]
    · unfold sup
      repeat' split
      all_goals first | rfl | (next e => rw [jup_ne _ _ hq, e])
    · unfold fR PW
      rw [if_neg e]
      simp only [sup_same, sup_ne _ _ (show (99 : Nat) ≠ 98 by decide), sup_ne _ _ (show (99 : Nat) ≠ 97 by decide), sup_ne _ _ (show (99 : Nat) ≠ 96 by decide), sup_ne _ _ (show (99 : Nat) ≠ 100 by decide), sup_ne _ _ (show (100 : Nat) ≠ 98 by decide), sup_ne _ _ (show (100 : Nat) ≠ 97 by decide), sup_ne _ _ (show (100 : Nat) ≠ 96 by decide), sup_ne _ _ (show (96 : Nat) ≠ 98 by decide), sup_ne _ _ (show (96 : Nat) ≠ 97 by decide), sup_ne _ _ (show (97 : Nat) ≠ 98 by decide), jup_same]
      refine ⟨?_, ?_, ?_, ?_, ?_⟩ <;> first | trivial | rfl
theorem q_foldB (hW : xFix V W) {h : xH} {S : Nat → Nat → Int} (H : HP N h S T) {z pile : Int} {l s : Nat} (hl : l ≤ 16) (hS : S 78 23 = l) (hs : s < l) (hz : 0 ≤ z ∧ z ≤ 100) (hc : 0 ≤ S 99 s ∧ S 99 s ≤ 100) (u : Option Value) :
    ∃ h' S' u', W m_Mod_fold (46, [some (.ref (N + 78)), some (.int (Int32.ofInt 0)), some (.int (Int32.ofInt z)), some (.int (Int32.ofInt (pile - 1))), some (.int (Int32.ofInt s)), u], []) h = W m_Mod_fold (46, [some (.ref (N + 78)), some (.int (Int32.ofInt 0)), some (.int (Int32.ofInt z)), some (.int (Int32.ofInt (pile - 1))), some (.int (Int32.ofInt ((s : Int) + 1))), u'], []) h' ∧ HP N h' S' T ∧ h'.2 = h.2 ∧ (∀ k, oth k → S' k = S k) ∧ (∀ q k, q ≠ s → S' k q = S k q) ∧ PW S' s (fL z pile (S 98 s, S 99 s, S 100 s, S 96 s, S 97 s)) := by
  rw [L_Mod_fold_46 hW]
  by_cases e : S 99 s < z / 2
  · have H1 := H.put (k := 100) (by omega) (jup (S 100) s (S 100 s + (pile - 1 + 1))) (e := jA 0 16 (jup (S 100) s (S 100 s + (pile - 1 + 1)))) rfl
    refine ⟨_, _, some (.int (Int32.ofInt (S 99 s))), ?_, H1, rfl, fun k hk => sup_ne _ _ hk.2.2.2.2, fun q k hq => ?_, ?_⟩
    · simp (disch := omega) only [↓reduceIte, S0, S1, J_lt, J_le, J_eq, J_ldI, J_ldI3, J_ldB, J_ldL, J_ldR, J_stI, J_stB, J_stL, J_dv, j_gne, C0, CM, CP, CR, CJ, CS, CL, and_self, and_true, true_and, and_false, false_and, or_true, true_or, or_false, false_or, not_true_eq_false, not_false_eq_true, Option.map_some, J_ltT, J_ltF, J_leT, J_leF, J_eqT, J_eqF, J_ntT, J_ntF, E_Mod_fold hW, E_Mod_fold_p1 hW, H.get, hS, Int.toNat_natCast, J_div]
    · unfold sup; split
      · next e => rw [jup_ne _ _ hq, e]
      · rfl
    · unfold fL PW
      rw [if_pos e, sup_same, jup_same, sup_ne _ _ (by decide), sup_ne _ _ (by decide), sup_ne _ _ (by decide), sup_ne _ _ (by decide)]
      exact ⟨rfl, rfl, by show S 100 s + (pile - 1 + 1) = S 100 s + pile; omega, rfl, rfl⟩
  · have H1 := H.put (k := 100) (by omega) (jup (S 100) s (pile - 1 - S 100 s)) (e := jA 0 16 (jup (S 100) s (pile - 1 - S 100 s))) rfl
    have H2 := H1.put (k := 96) (by omega) (jup (S 96) s (1 - S 96 s)) (e := jA 0 16 (jup (S 96) s (1 - S 96 s))) rfl
    have H3 := H2.put (k := 97) (by omega) (jup (S 97) s (1 - S 97 s)) (e := jA 0 16 (jup (S 97) s (1 - S 97 s))) rfl
    have H4 := H3.put (k := 99) (by omega) (jup (S 99) s (z - 1 - S 99 s)) (e := jA 0 16 (jup (S 99) s (z - 1 - S 99 s))) rfl
    refine ⟨_, _, some (.int (Int32.ofInt (S 99 s))), ?_, H4, rfl, fun k hk => ?_, fun q k hq => ?_, ?_⟩
    · simp (disch := omega) only [↓reduceIte, S0, S1, J_lt, J_le, J_eq, J_ldI, J_ldI3, J_ldB, J_ldL, J_ldR, J_stI, J_stB, J_stL, J_dv, j_gne, C0, CM, CP, CR, CJ, CS, CL, and_self, and_true, true_and, and_false, false_and, or_true, true_or, or_false, false_or, not_true_eq_false, not_false_eq_true, Option.map_some, J_ltT, J_ltF, J_leT, J_leF, J_eqT, J_eqF, J_ntT, J_ntF, E_Mod_fold hW, E_Mod_fold_p1 hW, H.get, hS, Int.toNat_natCast, J_div]
    · rw [sup_ne _ _ hk.2.2.2.1, sup_ne _ _ hk.2.1, sup_ne _ _ hk.1, sup_ne _ _ hk.2.2.2.2]
    · unfold sup
      repeat' split
      all_goals first | rfl | (next e => rw [jup_ne _ _ hq, e])
    · unfold fL PW
      rw [if_neg e]
      simp only [sup_same, sup_ne _ _ (show (98 : Nat) ≠ 99 by decide), sup_ne _ _ (show (98 : Nat) ≠ 97 by decide), sup_ne _ _ (show (98 : Nat) ≠ 96 by decide), sup_ne _ _ (show (98 : Nat) ≠ 100 by decide), sup_ne _ _ (show (100 : Nat) ≠ 99 by decide), sup_ne _ _ (show (100 : Nat) ≠ 97 by decide), sup_ne _ _ (show (100 : Nat) ≠ 96 by decide), sup_ne _ _ (show (96 : Nat) ≠ 99 by decide), sup_ne _ _ (show (96 : Nat) ≠ 97 by decide), sup_ne _ _ (show (97 : Nat) ≠ 99 by decide), jup_same]
      refine ⟨?_, ?_, ?_, ?_, ?_⟩ <;> first | trivial | rfl
theorem q_foldLA (hW : xFix V W) {z pile : Int} {l : Nat} (hl : l ≤ 16) (hz : 0 ≤ z ∧ z ≤ 100) : ∀ (n s : Nat) (h : xH) (S : Nat → Nat → Int) (u : Option Value), HP N h S T → S 78 23 = l → s + n = l → (∀ q, q < l → 0 ≤ S 98 q ∧ S 98 q ≤ 100) ∨ (∀ q, s ≤ q → q < l → 0 ≤ S 98 q ∧ S 98 q ≤ 100) →
    ∃ h' S', W m_Mod_fold (46, [some (.ref (N + 78)), some (.int (Int32.ofInt 1)), some (.int (Int32.ofInt z)), some (.int (Int32.ofInt (pile - 1))), some (.int (Int32.ofInt s)), u], []) h = some (.inl none, h') ∧ HP N h' S' T ∧ h'.2 = h.2 ∧ (∀ k, oth k → S' k = S k) ∧ (∀ q k, (q < s ∨ l ≤ q) → S' k q = S k q) ∧ ∀ q, s ≤ q → q < l → PW S' q (fR z pile (S 98 q, S 99 q, S 100 q, S 96 q, S 97 q)) := by
  intro n
  induction n with
  | zero =>
    intro s h S u H hS hs hc
    have e : s = l := by omega
    subst e
    refine ⟨h, S, ?_, H, rfl, fun _ _ => rfl, fun _ _ _ => rfl, fun q a b => by omega⟩
    rw [L_Mod_fold_46 hW]
    simp (disch := omega) only [↓reduceIte, S0, S1, J_lt, J_le, J_eq, J_ldI, J_ldI3, J_ldB, J_ldL, J_ldR, J_stI, J_stB, J_stL, J_dv, j_gne, C0, CM, CP, CR, CJ, CS, CL, and_self, and_true, true_and, and_false, false_and, or_true, true_or, or_false, false_or, not_true_eq_false, not_false_eq_true, Option.map_some, J_ltT, J_ltF, J_leT, J_leF, J_eqT, J_eqF, J_ntT, J_ntF, E_Mod_fold hW, E_Mod_fold_p1 hW, H.get, hS]
  | succ n ih =>
    intro s h S u H hS hs hc
    have hc' : ∀ q, s ≤ q → q < l → 0 ≤ S 98 q ∧ S 98 q ≤ 100 := fun q a b => by
      rcases hc with hc | hc
      · exact hc q b
      · exact hc q a b
    obtain ⟨h1, S1, u1, a1, a2, a3, a4, a5, a6⟩ := q_foldA hW H (z := z) (pile := pile) hl hS (show s < l by omega) hz (hc' s (by omega) (by omega)) u
    obtain ⟨h2, S2, b1, b2, b3, b4, b5, b6⟩ := ih (s + 1) h1 S1 u1 a2 (by rw [a4 78 ⟨by decide, by decide, by decide, by decide, by decide⟩]; exact hS) (by omega) (Or.inr (fun q x y => by rw [a5 q 98 (by omega)]; exact hc' q (by omega) y))
    rw [show (((s + 1 : Nat) : Int)) = (s : Int) + 1 by omega] at b1
    refine ⟨h2, S2, a1.trans b1, b2, b3.trans a3, fun k hk => (b4 k hk).trans (a4 k hk), fun q k hq => (b5 q k (by omega)).trans (a5 q k (by omega)), fun q x y => ?_⟩
    by_cases e : q = s
    · subst e
      unfold PW at *
      rw [b5 q 98 (by omega), b5 q 99 (by omega), b5 q 100 (by omega), b5 q 96 (by omega), b5 q 97 (by omega)]
      exact a6
    · have := b6 q (by omega) y
      rw [a5 q 98 e, a5 q 99 e, a5 q 100 e, a5 q 96 e, a5 q 97 e] at this
      exact this
theorem q_foldLB (hW : xFix V W) {z pile : Int} {l : Nat} (hl : l ≤ 16) (hz : 0 ≤ z ∧ z ≤ 100) : ∀ (n s : Nat) (h : xH) (S : Nat → Nat → Int) (u : Option Value), HP N h S T → S 78 23 = l → s + n = l → (∀ q, s ≤ q → q < l → 0 ≤ S 99 q ∧ S 99 q ≤ 100) →
    ∃ h' S', W m_Mod_fold (46, [some (.ref (N + 78)), some (.int (Int32.ofInt 0)), some (.int (Int32.ofInt z)), some (.int (Int32.ofInt (pile - 1))), some (.int (Int32.ofInt s)), u], []) h = some (.inl none, h') ∧ HP N h' S' T ∧ h'.2 = h.2 ∧ (∀ k, oth k → S' k = S k) ∧ (∀ q k, (q < s ∨ l ≤ q) → S' k q = S k q) ∧ ∀ q, s ≤ q → q < l → PW S' q (fL z pile (S 98 q, S 99 q, S 100 q, S 96 q, S 97 q)) := by
  intro n
  induction n with
  | zero =>
    intro s h S u H hS hs hc
    have e : s = l := by omega
    subst e
    refine ⟨h, S, ?_, H, rfl, fun _ _ => rfl, fun _ _ _ => rfl, fun q a b => by omega⟩
    rw [L_Mod_fold_46 hW]
    simp (disch := omega) only [↓reduceIte, S0, S1, J_lt, J_le, J_eq, J_ldI, J_ldI3, J_ldB, J_ldL, J_ldR, J_stI, J_stB, J_stL, J_dv, j_gne, C0, CM, CP, CR, CJ, CS, CL, and_self, and_true, true_and, and_false, false_and, or_true, true_or, or_false, false_or, not_true_eq_false, not_false_eq_true, Option.map_some, J_ltT, J_ltF, J_leT, J_leF, J_eqT, J_eqF, J_ntT, J_ntF, E_Mod_fold hW, E_Mod_fold_p1 hW, H.get, hS]
  | succ n ih =>
    intro s h S u H hS hs hc
    obtain ⟨h1, S1, u1, a1, a2, a3, a4, a5, a6⟩ := q_foldB hW H (z := z) (pile := pile) hl hS (show s < l by omega) hz (hc s (by omega) (by omega)) u
    obtain ⟨h2, S2, b1, b2, b3, b4, b5, b6⟩ := ih (s + 1) h1 S1 u1 a2 (by rw [a4 78 ⟨by decide, by decide, by decide, by decide, by decide⟩]; exact hS) (by omega) (fun q x y => by rw [a5 q 99 (by omega)]; exact hc q (by omega) y)
    rw [show (((s + 1 : Nat) : Int)) = (s : Int) + 1 by omega] at b1
    refine ⟨h2, S2, a1.trans b1, b2, b3.trans a3, fun k hk => (b4 k hk).trans (a4 k hk), fun q k hq => (b5 q k (by omega)).trans (a5 q k (by omega)), fun q x y => ?_⟩
    by_cases e : q = s
    · subst e
      unfold PW at *
      rw [b5 q 98 (by omega), b5 q 99 (by omega), b5 q 100 (by omega), b5 q 96 (by omega), b5 q 97 (by omega)]
      exact a6
    · have := b6 q (by omega) y
      rw [a5 q 98 e, a5 q 99 e, a5 q 100 e, a5 q 96 e, a5 q 97 e] at this
      exact this
end SN
/-- at each fold the deepest leaf lies at the pile's end -/
def deep : Nat → Bool → Int → Int → Int → Nat → (Nat → Int × Int × Int × Int × Int) → Bool
  | 0, _, _, _, _, _, _ => true
  | n + 1, true, cols, rows, pile, l, L => decide (mo (fun s => (L s).2.2.1) l 0 0 = pile - 1) && (List.range l).all (fun s => decide (0 ≤ (L s).2.2.1 ∧ (L s).2.2.1 ≤ 100)) && deep n false (cols / 2) rows (pile * 2) l (fun s => fR cols pile (L s))
  | n + 1, false, cols, rows, pile, l, L => decide (mo (fun s => (L s).2.2.1) l 0 0 = pile - 1) && (List.range l).all (fun s => decide (0 ≤ (L s).2.2.1 ∧ (L s).2.2.1 ≤ 100)) && deep n true cols (rows / 2) (pile * 2) l (fun s => fL rows pile (L s))
theorem deep_f : ∀ f : Nat, f < 5 → 1 ≤ f → deep f true (colsOf f) (2 ^ f / colsOf f) 1 (2 ^ f) (fun s => ((s : Int) % colsOf f, (s : Int) / colsOf f, 0, 0, 0)) = true := by decide +kernel
theorem mo_congr {d d' : Nat → Int} : ∀ (n s : Nat) (m : Int), (∀ q, s ≤ q → q < s + n → d q = d' q) → mo d n s m = mo d' n s m
  | 0, _, _, _ => rfl
  | n + 1, s, m, h => by
    show mo d n (s + 1) (if m < d s then d s else m) = mo d' n (s + 1) (if m < d' s then d' s else m)
    rw [h s (by omega) (by omega), mo_congr n (s + 1) _ (fun q a b => h q (by omega) (by omega))]
