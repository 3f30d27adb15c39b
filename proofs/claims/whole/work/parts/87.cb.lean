/-! the class: how many places are within, and their order by form -/
theorem dq_800 {q : Int} (h : 0 ≤ q ∧ q < 1681) : 0 ≤ dq q ∧ dq q ≤ 800 := by
  have b := px_b h
  have m1 := mulb (A := 20) (B := 20) b.1 b.1
  have m2 := mulb (A := 20) (B := 20) b.2.1 b.2.1
  have := dq_nn q
  unfold dq at *
  omega
theorem fill_at {v : Int} : ∀ (n : Nat) (k : Int) (F : Nat → Int) (j : Nat), 0 ≤ k → (k ≤ j ∧ (j : Int) < k + n ∨ F j = v) → fillF v n k F j = v
  | 0, k, F, j, h0, h => by rcases h with h | h; omega; exact h
  | n + 1, k, F, j, h0, h => by
    refine fill_at n (k + 1) (jup F k.toNat v) j (by omega) ?_
    by_cases e : j = k.toNat
    · right; rw [e, jup_same]
    · rcases h with h | h
      · left; omega
      · right; rw [jup_ne _ _ e]; exact h
def qS (S : Nat → Nat → Int) (B Q : Nat → Int) : Nat → Nat → Int := fun k => if k = 33 then B else if k = 34 then Q else S k
theorem qS_ne (S : Nat → Nat → Int) (B Q : Nat → Int) {k : Nat} (h : k ≠ 33 ∧ k ≠ 34) : qS S B Q k = S k := by unfold qS; rw [if_neg h.1, if_neg h.2]
theorem qS_33 (S : Nat → Nat → Int) (B Q : Nat → Int) : qS S B Q 33 = B := rfl
theorem qS_34 (S : Nat → Nat → Int) (B Q : Nat → Int) : qS S B Q 34 = Q := rfl
theorem qS_p33 (S : Nat → Nat → Int) (B Q Z : Nat → Int) : sup (qS S B Q) 33 Z = qS S Z Q := by
  funext k; unfold sup qS; by_cases h : k = 33
  · subst h; rfl
  · rw [if_neg h, if_neg h, if_neg h]
theorem qS_p34 (S : Nat → Nat → Int) (B Q Z : Nat → Int) : sup (qS S B Q) 34 Z = qS S B Z := by
  funext k; unfold sup qS; by_cases h : k = 34
  · subst h; rfl
  · simp only [if_neg h]
theorem qS_0 (S : Nat → Nat → Int) : qS S (S 33) (S 34) = S := by
  funext k; unfold qS; split
  · rename_i e; rw [e]
  · split
    · rename_i e; rw [e]
    · rfl
section CBS
variable {V : Nat → Value} {W : xWt} {N M : Nat} {T : Nat → Nat → Int64} {S : Nat → Nat → Int}
theorem p_cwL (hW : xFix V W) {h : xH} (hM : 35 ≤ M) (H : HB 31 M N h S T) {n : Int} {c : Nat} (hc : S 31 3 = c) (hc2 : c ≤ 1681) (hn : 0 ≤ n ∧ n ≤ 400) (hp : ∀ i, i < c → 0 ≤ S 32 i ∧ S 32 i < 1681) : ∀ (r k : Nat), k + r = c → (∀ i, i < k → dq (S 32 i) ≤ n) →
    ∃ w : Nat, W m_Pla_countWithin (2, [some (.ref (N + 31)), some (.int (Int32.ofInt n)), some (.int (Int32.ofInt ((k : Int))))], []) h = some (.inl (some (jI w)), h) ∧ w ≤ c ∧ (∀ i, i < w → dq (S 32 i) ≤ n) ∧ (w = c ∨ n < dq (S 32 w)) := by
  intro r
  induction r with
  | zero =>
    intro k hk hd
    have : k = c := by omega
    subst this
    refine ⟨k, ?_, by omega, hd, Or.inl rfl⟩
    rw [L_Pla_countWithin_2 hW]
    simp (disch := omega) only [↓reduceIte, S0, S1, J_lt, J_le, J_eq, J_ldI, J_ldI3, J_ldB, J_ldL, J_ldR, J_stI, J_stB, J_stL, J_dv, j_gne, C0, CM, CP, CR, CJ, CS, CL, and_self, and_true, true_and, and_false, false_and, or_true, true_or, or_false, false_or, not_true_eq_false, not_false_eq_true, Option.map_some, J_ltT, J_ltF, J_leT, J_leF, J_eqT, J_eqF, J_ntT, J_ntF, E_Pla_countWithin hW, H.get, hc]
  | succ r ih =>
    intro k hk hd
    have d1 := dq_800 (hp k (by omega))
    by_cases g : n < dq (S 32 k)
    · refine ⟨k, ?_, by omega, hd, Or.inr g⟩
      rw [L_Pla_countWithin_2 hW]
      simp (disch := omega) only [↓reduceIte, S0, S1, J_lt, J_le, J_eq, J_ldI, J_ldI3, J_ldB, J_ldL, J_ldR, J_stI, J_stB, J_stL, J_dv, j_gne, C0, CM, CP, CR, CJ, CS, CL, and_self, and_true, true_and, and_false, false_and, or_true, true_or, or_false, false_or, not_true_eq_false, not_false_eq_true, Option.map_some, J_ltT, J_ltF, J_leT, J_leF, J_eqT, J_eqF, J_ntT, J_ntF, E_Pla_countWithin hW, H.get, hc, Int.toNat_natCast, p_distanceOf hW (hp k (by omega))]
    · obtain ⟨w, w1, w2, w3, w4⟩ := ih (k + 1) (by omega) (fun i hi => by
        rcases Nat.lt_or_ge i k with e | e
        · exact hd i e
        · rw [show i = k by omega]; omega)
      refine ⟨w, ?_, w2, w3, w4⟩
      rw [← w1, L_Pla_countWithin_2 hW]
      simp (disch := omega) only [↓reduceIte, S0, S1, J_lt, J_le, J_eq, J_ldI, J_ldI3, J_ldB, J_ldL, J_ldR, J_stI, J_stB, J_stL, J_dv, j_gne, C0, CM, CP, CR, CJ, CS, CL, and_self, and_true, true_and, and_false, false_and, or_true, true_or, or_false, false_or, not_true_eq_false, not_false_eq_true, Option.map_some, J_ltT, J_ltF, J_leT, J_leF, J_eqT, J_eqF, J_ntT, J_ntF, E_Pla_countWithin hW, H.get, hc, Int.toNat_natCast, p_distanceOf hW (hp k (by omega))]
      rfl
theorem p_countWithin (hW : xFix V W) {h : xH} (hM : 35 ≤ M) (H : HB 31 M N h S T) {n : Int} {c : Nat} (hc : S 31 3 = c) (hc2 : c ≤ 1681) (hn : 0 ≤ n ∧ n ≤ 400) (hp : ∀ i, i < c → 0 ≤ S 32 i ∧ S 32 i < 1681) :
    ∃ w : Nat, W m_Pla_countWithin (0, [some (.ref (N + 31)), some (.int (Int32.ofInt n)), none], []) h = some (.inl (some (jI w)), h) ∧ w ≤ c ∧ (∀ i, i < w → dq (S 32 i) ≤ n) ∧ (w = c ∨ n < dq (S 32 w)) := by
  obtain ⟨w, w1, w2⟩ := p_cwL hW hM H hc hc2 hn hp c 0 (by omega) (fun i hi => by omega)
  refine ⟨w, ?_, w2⟩
  rw [← w1]
  simp (disch := omega) only [↓reduceIte, S0, S1, J_lt, J_le, J_eq, J_ldI, J_ldI3, J_ldB, J_ldL, J_ldR, J_stI, J_stB, J_stL, J_dv, j_gne, C0, CM, CP, CR, CJ, CS, CL, and_self, and_true, true_and, and_false, false_and, or_true, true_or, or_false, false_or, not_true_eq_false, not_false_eq_true, Option.map_some, E_Pla_countWithin hW]
  rfl
theorem p_sf1 (hW : xFix V W) (hM : 35 ≤ M) {a b s : Int} {w : Nat} {f B : Nat → Int} (ha : -20 ≤ a ∧ a ≤ 20) (hb : -20 ≤ b ∧ b ≤ 20) (hs : 0 ≤ s ∧ s < 3) (hw : w ≤ 1681) (hp : ∀ i, i < w → 0 ≤ S 32 i ∧ S 32 i < 1681) (hf : ∀ k, k < w → frm a b s (px (S 32 k)) (py (S 32 k)) = f k ∧ 0 ≤ f k ∧ f k ≤ 400) :
    ∀ (r i : Nat) (Q : Nat → Int) (h : xH), HB 31 M N h (qS S B Q) T → i + r = w → (Q 0 = 0 ∧ ∀ c : Nat, c < 401 → Q (c + 1) = cnE f c i) →
    ∃ (Q' : Nat → Int) (h' : xH), W m_Pla_sortByForm (11, [some (.ref (N + 31)), some (.int (Int32.ofInt ((w : Int)))), some (.int (Int32.ofInt a)), some (.int (Int32.ofInt b)), some (.int (Int32.ofInt s)), some (.int (Int32.ofInt ((i : Int)))), none], []) h = W m_Pla_sortByForm (48, [some (.ref (N + 31)), some (.int (Int32.ofInt ((w : Int)))), some (.int (Int32.ofInt a)), some (.int (Int32.ofInt b)), some (.int (Int32.ofInt s)), some (.int (Int32.ofInt ((w : Int)))), none], []) h' ∧ HB 31 M N h' (qS S B Q') T ∧ HF 31 M N h h' ∧ (Q' 0 = 0 ∧ ∀ c : Nat, c < 401 → Q' (c + 1) = cnE f c w) := by
  intro r
  induction r with
  | zero =>
    intro i Q h H hi hQ
    have : i = w := by omega
    subst this
    refine ⟨Q, h, ?_, H, HF_refl, hQ⟩
    rw [L_Pla_sortByForm_11 hW]
    simp (disch := omega) only [↓reduceIte, S0, S1, J_lt, J_le, J_eq, J_ldI, J_ldI3, J_ldB, J_ldL, J_ldR, J_stI, J_stB, J_stL, J_dv, j_gne, C0, CM, CP, CR, CJ, CS, CL, and_self, and_true, true_and, and_false, false_and, or_true, true_or, or_false, false_or, not_true_eq_false, not_false_eq_true, Option.map_some, J_ltT, J_ltF, J_leT, J_leF, J_eqT, J_eqF, J_ntT, J_ntF]
  | succ r ih =>
    intro i Q h H hi hQ
    obtain ⟨f1, f2, f3⟩ := hf i (by omega)
    have fo := fun h => p_formOf (h := h) hW (hp i (by omega)) ha hb hs
    rw [f1] at fo
    have e : (f i + 1).toNat = (f i).toNat + 1 := by omega
    have q1 := hQ.2 (f i).toNat (by omega)
    have cb := cnE_b f ((f i).toNat : Nat) i
    have H1 := H.put (k := 34) (jup Q ((f i).toNat + 1) (Q ((f i).toNat + 1) + 1)) rfl
    rw [qS_p34] at H1
    obtain ⟨Q', h', w1, w2, w3, w4⟩ := ih (i + 1) _ _ H1 (by omega) ⟨by rw [jup_ne _ _ (by omega)]; exact hQ.1, fun c hc => by
      simp only [cnE]
      by_cases ec : c = (f i).toNat
      · rw [ec, jup_same, q1, if_pos (by omega)]
      · rw [jup_ne _ _ (by omega), hQ.2 c hc, if_neg (by omega)]; omega⟩
    refine ⟨Q', h', ?_, w2, HF_trans (HF_set (by omega)) w3, w4⟩
    rw [← w1, L_Pla_sortByForm_11 hW]
    simp (disch := omega) only [↓reduceIte, S0, S1, J_lt, J_le, J_eq, J_ldI, J_ldI3, J_ldB, J_ldL, J_ldR, J_stI, J_stB, J_stL, J_dv, j_gne, C0, CM, CP, CR, CJ, CS, CL, and_self, and_true, true_and, and_false, false_and, or_true, true_or, or_false, false_or, not_true_eq_false, not_false_eq_true, Option.map_some, J_ltT, J_ltF, J_leT, J_leF, J_eqT, J_eqF, J_ntT, J_ntF, E_Pla_sortByForm hW, H.get, qS_ne, qS_34, Int.toNat_natCast, fo, e]
    rfl
theorem p_sf2 (hW : xFix V W) (hM : 35 ≤ M) {x1 x2 x3 x4 : Int} {w : Nat} {f B : Nat → Int} (hw : w ≤ 1681) :
    ∀ (r c : Nat) (Q : Nat → Int) (h : xH), HB 31 M N h (qS S B Q) T → c + r = 402 → 1 ≤ c → (∀ j, j < c → Q j = cnL f j w) → (∀ j, c ≤ j → j < 402 → Q j = cnE f (j - 1 : Nat) w) →
    ∃ (Q' : Nat → Int) (h' : xH), W m_Pla_sortByForm (51, [some (.ref (N + 31)), some (.int (Int32.ofInt x1)), some (.int (Int32.ofInt x2)), some (.int (Int32.ofInt x3)), some (.int (Int32.ofInt x4)), some (.int (Int32.ofInt ((c : Int)))), none], []) h = W m_Pla_sortByForm (86, [some (.ref (N + 31)), some (.int (Int32.ofInt x1)), some (.int (Int32.ofInt x2)), some (.int (Int32.ofInt x3)), some (.int (Int32.ofInt x4)), some (.int (Int32.ofInt 402)), none], []) h' ∧ HB 31 M N h' (qS S B Q') T ∧ HF 31 M N h h' ∧ (∀ j, j < 402 → Q' j = cnL f j w) := by
  intro r
  induction r with
  | zero =>
    intro c Q h H hc c1 q1 q2
    have : c = 402 := by omega
    subst this
    refine ⟨Q, h, ?_, H, HF_refl, q1⟩
    rw [L_Pla_sortByForm_51 hW]
    rw [show (((402 : Nat)) : Int) = 402 from rfl]
    simp (disch := omega) only [↓reduceIte, S0, S1, J_lt, J_le, J_eq, J_ldI, J_ldI3, J_ldB, J_ldL, J_ldR, J_stI, J_stB, J_stL, J_dv, j_gne, C0, CM, CP, CR, CJ, CS, CL, and_self, and_true, true_and, and_false, false_and, or_true, true_or, or_false, false_or, not_true_eq_false, not_false_eq_true, Option.map_some, J_ltT, J_ltF, J_leT, J_leF, J_eqT, J_eqF, J_ntT, J_ntF, E_Pla_sortByForm hW, H.get, qS_34, j_aln]
  | succ r ih =>
    intro c Q h H hc c1 q1 q2
    have a1 := q1 (c - 1) (by omega)
    have a2 := q2 c (by omega) (by omega)
    have b1 := cnL_b f ((c - 1 : Nat) : Int) w
    have b2 := cnE_b f ((c - 1 : Nat) : Int) w
    have e1 : ((c : Int) - 1).toNat = c - 1 := by omega
    have s0 := cnL_s f ((c - 1 : Nat) : Int) w
    rw [show (((c - 1 : Nat) : Int) + 1) = c by omega] at s0
    have H1 := H.put (k := 34) (jup Q c (Q c + Q (c - 1))) rfl
    rw [qS_p34] at H1
    obtain ⟨Q', h', w1, w2, w3, w4⟩ := ih (c + 1) _ _ H1 (by omega) (by omega) (fun j hj => by
      by_cases ej : j = c
      · rw [ej, jup_same, a1, a2, s0]; omega
      · rw [jup_ne _ _ ej]; exact q1 j (by omega)) (fun j j1 j2 => by
      rw [jup_ne _ _ (by omega)]; exact q2 j (by omega) j2)
    refine ⟨Q', h', ?_, w2, HF_trans (HF_set (by omega)) w3, w4⟩
    rw [← w1, L_Pla_sortByForm_51 hW]
    simp (disch := omega) only [↓reduceIte, S0, S1, J_lt, J_le, J_eq, J_ldI, J_ldI3, J_ldB, J_ldL, J_ldR, J_stI, J_stB, J_stL, J_dv, j_gne, C0, CM, CP, CR, CJ, CS, CL, and_self, and_true, true_and, and_false, false_and, or_true, true_or, or_false, false_or, not_true_eq_false, not_false_eq_true, Option.map_some, J_ltT, J_ltF, J_leT, J_leF, J_eqT, J_eqF, J_ntT, J_ntF, E_Pla_sortByForm hW, H.get, qS_34, j_aln, Int.toNat_natCast, e1]
    rfl
theorem p_sf3 (hW : xFix V W) (hM : 35 ≤ M) {a b s : Int} {w : Nat} {f : Nat → Int} (ha : -20 ≤ a ∧ a ≤ 20) (hb : -20 ≤ b ∧ b ≤ 20) (hs : 0 ≤ s ∧ s < 3) (hw : w ≤ 1681) (hp : ∀ i, i < w → 0 ≤ S 32 i ∧ S 32 i < 1681) (hf : ∀ k, k < w → frm a b s (px (S 32 k)) (py (S 32 k)) = f k ∧ 0 ≤ f k ∧ f k ≤ 400) :
    ∀ (r i : Nat) (B Q : Nat → Int) (h : xH) (s6 : Option Value), HB 31 M N h (qS S B Q) T → i + r = w → (∀ c : Nat, c < 401 → Q c = cnL f c w + cnE f c i) → (∀ k, k < i → B (ps f w k).toNat = S 32 k) →
    ∃ (B' Q' : Nat → Int) (h' : xH), W m_Pla_sortByForm (89, [some (.ref (N + 31)), some (.int (Int32.ofInt ((w : Int)))), some (.int (Int32.ofInt a)), some (.int (Int32.ofInt b)), some (.int (Int32.ofInt s)), some (.int (Int32.ofInt ((i : Int)))), s6], []) h = some (.inl none, h') ∧ HB 31 M N h' (qS S B' Q') T ∧ HF 31 M N h h' ∧ ∀ k, k < w → B' (ps f w k).toNat = S 32 k := by
  intro r
  induction r with
  | zero =>
    intro i B Q h s6 H hi hQ hB
    have : i = w := by omega
    subst this
    refine ⟨B, Q, h, ?_, H, HF_refl, hB⟩
    rw [L_Pla_sortByForm_89 hW]
    simp (disch := omega) only [↓reduceIte, S0, S1, J_lt, J_le, J_eq, J_ldI, J_ldI3, J_ldB, J_ldL, J_ldR, J_stI, J_stB, J_stL, J_dv, j_gne, C0, CM, CP, CR, CJ, CS, CL, and_self, and_true, true_and, and_false, false_and, or_true, true_or, or_false, false_or, not_true_eq_false, not_false_eq_true, Option.map_some, J_ltT, J_ltF, J_leT, J_leF, J_eqT, J_eqF, J_ntT, J_ntF, E_Pla_sortByForm hW]
  | succ r ih =>
    intro i B Q h s6 H hi hQ hB
    obtain ⟨f1, f2, f3⟩ := hf i (by omega)
    have fo := fun h => p_formOf (h := h) hW (hp i (by omega)) ha hb hs
    rw [f1] at fo
    have q1 := hQ (f i).toNat (by omega)
    rw [show (((f i).toNat : Nat) : Int) = f i by omega] at q1
    have pe : Q (f i).toNat = ps f w i := q1
    have pb := ps_b (f := f) (w := w) (k := i) (by omega)
    have H1 := H.put (k := 33) (jup B (ps f w i).toNat (S 32 i)) rfl
    rw [qS_p33] at H1
    have H2 := H1.put (k := 34) (jup Q (f i).toNat (ps f w i + 1)) rfl
    rw [qS_p34] at H2
    obtain ⟨B', Q', h', w1, w2, w3, w4⟩ := ih (i + 1) _ _ _ (some (.int (Int32.ofInt (f i)))) H2 (by omega) (fun c hc => by
      simp only [cnE]
      by_cases ec : c = (f i).toNat
      · rw [ec, jup_same, ← pe, hQ _ (by omega), if_pos (by omega)]; omega
      · rw [jup_ne _ _ ec, hQ c hc, if_neg (by omega)]; omega) (fun k hk => by
      by_cases ek : k = i
      · rw [ek, jup_same]
      · have pk := ps_b (f := f) (w := w) (k := k) (by omega)
        rw [jup_ne _ _ (by
          intro c
          exact ek (ps_inj (f := f) (w := w) (by omega) (by omega) (by omega)))]
        exact hB k (by omega))
    refine ⟨B', Q', h', ?_, w2, HF_trans (HF_trans (HF_set (by omega)) (HF_set (by omega))) w3, w4⟩
    rw [← w1, L_Pla_sortByForm_89 hW]
    simp (disch := omega) only [↓reduceIte, S0, S1, J_lt, J_le, J_eq, J_ldI, J_ldI3, J_ldB, J_ldL, J_ldR, J_stI, J_stB, J_stL, J_dv, j_gne, C0, CM, CP, CR, CJ, CS, CL, and_self, and_true, true_and, and_false, false_and, or_true, true_or, or_false, false_or, not_true_eq_false, not_false_eq_true, Option.map_some, J_ltT, J_ltF, J_leT, J_leF, J_eqT, J_eqF, J_ntT, J_ntF, E_Pla_sortByForm hW, H.get, H1.get, qS_ne, qS_34, qS_33, Int.toNat_natCast, fo, pe]
    rfl
theorem p_sortByForm (hW : xFix V W) (hM : 35 ≤ M) {a b s : Int} {w : Nat} {f : Nat → Int} {h : xH} (H : HB 31 M N h S T) (ha : -20 ≤ a ∧ a ≤ 20) (hb : -20 ≤ b ∧ b ≤ 20) (hs : 0 ≤ s ∧ s < 3) (hw : w ≤ 1681) (hp : ∀ i, i < w → 0 ≤ S 32 i ∧ S 32 i < 1681) (hf : ∀ k, k < w → frm a b s (px (S 32 k)) (py (S 32 k)) = f k ∧ 0 ≤ f k ∧ f k ≤ 400) :
    ∃ (B Q : Nat → Int) (h' : xH), W m_Pla_sortByForm (0, [some (.ref (N + 31)), some (.int (Int32.ofInt ((w : Int)))), some (.int (Int32.ofInt a)), some (.int (Int32.ofInt b)), some (.int (Int32.ofInt s)), none, none], []) h = some (.inl none, h') ∧ HB 31 M N h' (qS S B Q) T ∧ HF 31 M N h h' ∧ ∀ k, k < w → B (ps f w k).toNat = S 32 k := by
  have H0 := H
  rw [← qS_0 S] at H0
  have fl := p_fill hW (q := N + 34) (m := 402) (v := 0) (F := S 34) (h := h) (by omega) (H.get (k := 34) (by omega))
  have H1 := H0.put (k := 34) (fillF 0 402 0 (S 34)) rfl
  rw [qS_p34] at H1
  have z : ∀ j, j < 402 → fillF 0 402 0 (S 34) j = 0 := fun j hj => fill_at 402 0 (S 34) j (by omega) (Or.inl (by omega))
  obtain ⟨Q1, h1, a1, a2, a3, a4⟩ := p_sf1 hW hM ha hb hs hw hp hf w 0 _ _ H1 (by omega) ⟨z 0 (by omega), fun c hc => by rw [z _ (by omega)]; rfl⟩
  obtain ⟨Q2, h2, b1, b2, b3, b4⟩ := p_sf2 (x1 := w) (x2 := a) (x3 := b) (x4 := s) (f := f) hW hM hw 401 1 Q1 h1 a2 (by omega) (by omega) (fun j hj => by
    rw [show j = 0 by omega, a4.1]
    have : ∀ k, k ≤ w → cnL f ((0 : Nat) : Int) k = 0 := by
      intro k
      induction k with
      | zero => intro _; rfl
      | succ k ih => intro hk; simp only [cnL]; rw [ih (by omega), if_neg (by have := (hf k (by omega)).2; omega)]; rfl
    rw [this w (by omega)]) (fun j j1 j2 => by
    have := a4.2 (j - 1) (by omega)
    rw [show j - 1 + 1 = j by omega] at this
    exact this)
  obtain ⟨B, Q3, h3, c1, c2, c3, c4⟩ := p_sf3 hW hM ha hb hs hw hp hf w 0 _ Q2 h2 none b2 (by omega) (fun c hc => by rw [b4 c (by omega)]; simp only [cnE]; omega) (fun k hk => by omega)
  refine ⟨B, Q3, h3, ?_, c2, HF_trans (HF_trans (HF_trans (HF_set (k := 34) (by omega)) a3) b3) c3, c4⟩
  rw [← c1]
  rw [show ((0 : Nat) : Int) = 0 from rfl] at a1 ⊢
  rw [show ((1 : Nat) : Int) = 1 from rfl] at b1
  simp (disch := omega) only [↓reduceIte, S0, S1, J_lt, J_le, J_eq, J_ldI, J_ldI3, J_ldB, J_ldL, J_ldR, J_stI, J_stB, J_stL, J_dv, j_gne, C0, CM, CP, CR, CJ, CS, CL, and_self, and_true, true_and, and_false, false_and, or_true, true_or, or_false, false_or, not_true_eq_false, not_false_eq_true, Option.map_some, E_Pla_sortByForm hW, H.get, fl]
  rw [show cell N 34 (fillF 0 402 0 (S 34)) (T 34) = jA 0 402 (fillF 0 402 0 (S 34)) from rfl] at a1
  rw [a1]
  simp (disch := omega) only [↓reduceIte, S0, S1, J_lt, J_le, J_eq, J_ldI, J_ldI3, J_ldB, J_ldL, J_ldR, J_stI, J_stB, J_stL, J_dv, j_gne, C0, CM, CP, CR, CJ, CS, CL, and_self, and_true, true_and, and_false, false_and, or_true, true_or, or_false, false_or, not_true_eq_false, not_false_eq_true, Option.map_some, E_Pla_sortByForm hW]
  rw [b1]
  simp (disch := omega) only [↓reduceIte, S0, S1, J_lt, J_le, J_eq, J_ldI, J_ldI3, J_ldB, J_ldL, J_ldR, J_stI, J_stB, J_stL, J_dv, j_gne, C0, CM, CP, CR, CJ, CS, CL, and_self, and_true, true_and, and_false, false_and, or_true, true_or, or_false, false_or, not_true_eq_false, not_false_eq_true, Option.map_some, E_Pla_sortByForm hW]
end CBS
