/-! the class: ranks are given, a screen is laid -/
def gS (S : Nat → Nat → Int) (i : Nat) (R G : Nat → Int) : Nat → Nat → Int := fun k => if k = 36 + 3 * i then R else if k = 37 + 3 * i then G else S k
theorem gS_ne (S : Nat → Nat → Int) (i : Nat) (R G : Nat → Int) {k : Nat} (h : k ≠ 36 + 3 * i ∧ k ≠ 37 + 3 * i) : gS S i R G k = S k := by unfold gS; rw [if_neg h.1, if_neg h.2]
theorem gS_R (S : Nat → Nat → Int) (i : Nat) (R G : Nat → Int) : gS S i R G (36 + 3 * i) = R := by unfold gS; rw [if_pos rfl]
theorem gS_G (S : Nat → Nat → Int) (i : Nat) (R G : Nat → Int) : gS S i R G (37 + 3 * i) = G := by unfold gS; rw [if_neg (by omega), if_pos rfl]
theorem gS_pR (S : Nat → Nat → Int) (i : Nat) (R G Z : Nat → Int) : sup (gS S i R G) (36 + 3 * i) Z = gS S i Z G := by
  funext k; unfold sup gS; split
  · rfl
  · rfl
theorem gS_pG (S : Nat → Nat → Int) (i : Nat) (R G Z : Nat → Int) : sup (gS S i R G) (37 + 3 * i) Z = gS S i R Z := by
  funext k; unfold sup gS
  by_cases h : k = 37 + 3 * i
  · rw [if_pos h, if_neg (by omega), if_pos h]
  · rw [if_neg h, if_neg h, if_neg h]
theorem gS_0 (S : Nat → Nat → Int) (i : Nat) : gS S i (S (36 + 3 * i)) (S (37 + 3 * i)) = S := by
  funext k; unfold gS; split
  · rename_i e; rw [e]
  · split
    · rename_i e; rw [e]
    · rfl
section CDS
variable {V : Nat → Value} {W : xWt} {N M : Nat} {T : Nat → Nat → Int64} {S : Nat → Nat → Int}
theorem p_grL (hW : xFix V W) {i q w : Nat} (hi : i < 8) (hM : 38 + 3 * i ≤ M) (hq : q = 32 ∨ q = 33) {n g t c : Int} (en : S (35 + 3 * i) 3 = n) (eg : S (35 + 3 * i) 4 = g) (et : S (35 + 3 * i) 5 = t) (hn : 1 ≤ n ∧ n ≤ 400) (hg : 0 < g ∧ g ≤ 20) (hc : n = g * c) (ht : 0 ≤ t ∧ t < n) (hw : w ≤ 1681) (hp : ∀ j, j < w → 0 ≤ S q j ∧ S q j < 1681) :
    ∀ (r j m : Nat) (R G : Nat → Int) (h : xH) (s5 : Option Value), HB 31 M N h (gS S i R G) T → j + r = w → RI (S q) (fun j => (cix n g t (px (S q j)) (py (S q j))).toNat) n.toNat R G j m →
    ∃ (j' m' : Nat) (R' G' : Nat → Int) (h' : xH), W m_Scr_giveRanks (13, [some (.ref (N + (35 + 3 * i))), some (.ref (N + q)), some (.int (Int32.ofInt ((w : Int)))), some (.int (Int32.ofInt ((m : Int)))), some (.int (Int32.ofInt ((j : Int)))), s5], []) h = some (.inl none, h') ∧ HB 31 M N h' (gS S i R' G') T ∧ HF 31 M N h h' ∧ RI (S q) (fun j => (cix n g t (px (S q j)) (py (S q j))).toNat) n.toNat R' G' j' m' ∧ j' ≤ w ∧ (j' = w ∨ m' = n.toNat) := by
  intro r
  induction r with
  | zero =>
    intro j m R G h s5 H hj I
    have : j = w := by omega
    subst this
    refine ⟨j, m, R, G, h, ?_, H, HF_refl, I, by omega, Or.inl rfl⟩
    rw [L_Scr_giveRanks_13 hW]
    simp (disch := omega) only [↓reduceIte, S0, S1, J_lt, J_le, J_eq, J_ldI, J_ldI3, J_ldB, J_ldL, J_ldR, J_stI, J_stB, J_stL, J_dv, j_gne, C0, CM, CP, CR, CJ, CS, CL, and_self, and_true, true_and, and_false, false_and, or_true, true_or, or_false, false_or, not_true_eq_false, not_false_eq_true, Option.map_some, J_ltT, J_ltF, J_leT, J_leF, J_eqT, J_eqF, J_ntT, J_ntF, E_Scr_giveRanks hW]
  | succ r ih =>
    intro j m R G h s5 H hj I
    have mle := RI_le I
    have hpj := hp j (by omega)
    have bd := px_b hpj
    obtain ⟨-, -, -, -, cb⟩ := cix_b (t := t) (x := px (S q j)) (y := py (S q j)) hg.1 hc (by omega)
    have ca := p_classAt hW hi hM H (x := px (S q j)) (y := py (S q j)) (by rw [gS_ne _ _ _ _ (by omega)]; exact en) (by rw [gS_ne _ _ _ _ (by omega)]; exact eg) (by rw [gS_ne _ _ _ _ (by omega)]; exact et) hn hg hc ht (by omega) (by omega)
    have oq : cell N q (gS S i R G q) (T q) = jA 0 1681 (S q) := by
      rw [gS_ne _ _ _ _ (by omega)]
      rcases hq with rfl | rfl <;> rfl
    have e3 : gS S i R G (35 + 3 * i) 3 = n := by rw [gS_ne _ _ _ _ (by omega)]; exact en
    by_cases full : m = n.toNat
    · refine ⟨j, m, R, G, h, ?_, H, HF_refl, I, by omega, Or.inr full⟩
      rw [L_Scr_giveRanks_13 hW]
      simp (disch := omega) only [↓reduceIte, S0, S1, J_lt, J_le, J_eq, J_ldI, J_ldI3, J_ldB, J_ldL, J_ldR, J_stI, J_stB, J_stL, J_dv, j_gne, C0, CM, CP, CR, CJ, CS, CL, and_self, and_true, true_and, and_false, false_and, or_true, true_or, or_false, false_or, not_true_eq_false, not_false_eq_true, Option.map_some, J_ltT, J_ltF, J_leT, J_leF, J_eqT, J_eqF, J_ntT, J_ntF, E_Scr_giveRanks hW, H.get, e3]
    · have rb : R (cix n g t (px (S q j)) (py (S q j))).toNat = -1 ∨ (0 ≤ R (cix n g t (px (S q j)) (py (S q j))).toNat ∧ R (cix n g t (px (S q j)) (py (S q j))).toNat < 400) := by
        obtain ⟨⟨J, -, -, i3⟩, -⟩ := I
        rcases i3 (cix n g t (px (S q j)) (py (S q j))).toNat (by omega) with ⟨z, -⟩ | ⟨r', z1, z2, -⟩
        · exact Or.inl z
        · exact Or.inr (by omega)
      by_cases new : R (cix n g t (px (S q j)) (py (S q j))).toNat = -1
      · have I' := RI_new I (show (fun j => (cix n g t (px (S q j)) (py (S q j))).toNat) j < n.toNat by show (cix n g t (px (S q j)) (py (S q j))).toNat < n.toNat; omega) new
        have H1 := H.put (k := 36 + 3 * i) (jup R (cix n g t (px (S q j)) (py (S q j))).toNat m) rfl
        rw [gS_pR] at H1
        have H2 := H1.put (k := 37 + 3 * i) (jup G m (S q j)) rfl
        rw [gS_pG] at H2
        obtain ⟨j', m', R', G', h', w1, w2, w3, w4⟩ := ih (j + 1) (m + 1) _ _ _ (some (.int (Int32.ofInt (cix n g t (px (S q j)) (py (S q j)))))) H2 (by omega) I'
        refine ⟨j', m', R', G', h', ?_, w2, HF_trans (HF_trans (HF_set (by omega)) (HF_set (by omega))) w3, w4⟩
        rw [← w1, L_Scr_giveRanks_13 hW]
        simp (disch := omega) only [↓reduceIte, S0, S1, J_lt, J_le, J_eq, J_ldI, J_ldI3, J_ldB, J_ldL, J_ldR, J_stI, J_stB, J_stL, J_dv, j_gne, C0, CM, CP, CR, CJ, CS, CL, and_self, and_true, true_and, and_false, false_and, or_true, true_or, or_false, false_or, not_true_eq_false, not_false_eq_true, Option.map_some, J_ltT, J_ltF, J_leT, J_leF, J_eqT, J_eqF, J_ntT, J_ntF, E_Scr_giveRanks hW, H.get, H1.get, e3, oq, gS_R, gS_G, Int.toNat_natCast, p_xOf hW hpj, p_yOf hW hpj, ca, new]
        rfl
      · have I' := RI_old I (show R ((fun j => (cix n g t (px (S q j)) (py (S q j))).toNat) j) ≠ -1 from new)
        obtain ⟨j', m', R', G', h', w1, w2, w3, w4⟩ := ih (j + 1) m R G h (some (.int (Int32.ofInt (cix n g t (px (S q j)) (py (S q j)))))) H (by omega) I'
        refine ⟨j', m', R', G', h', ?_, w2, w3, w4⟩
        rw [← w1, L_Scr_giveRanks_13 hW]
        simp (disch := omega) only [↓reduceIte, S0, S1, J_lt, J_le, J_eq, J_ldI, J_ldI3, J_ldB, J_ldL, J_ldR, J_stI, J_stB, J_stL, J_dv, j_gne, C0, CM, CP, CR, CJ, CS, CL, and_self, and_true, true_and, and_false, false_and, or_true, true_or, or_false, false_or, not_true_eq_false, not_false_eq_true, Option.map_some, J_ltT, J_ltF, J_leT, J_leF, J_eqT, J_eqF, J_ntT, J_ntF, E_Scr_giveRanks hW, H.get, e3, oq, gS_R, gS_G, Int.toNat_natCast, p_xOf hW hpj, p_yOf hW hpj, ca]
        rfl
theorem p_giveRanks (hW : xFix V W) {i q w : Nat} {h : xH} (H : HB 31 M N h S T) (hi : i < 8) (hM : 38 + 3 * i ≤ M) (hq : q = 32 ∨ q = 33) {n g t c : Int} (en : S (35 + 3 * i) 3 = n) (eg : S (35 + 3 * i) 4 = g) (et : S (35 + 3 * i) 5 = t) (hn : 1 ≤ n ∧ n ≤ 400) (hg : 0 < g ∧ g ≤ 20) (hc : n = g * c) (ht : 0 ≤ t ∧ t < n) (hw : w ≤ 1681) (hp : ∀ j, j < w → 0 ≤ S q j ∧ S q j < 1681) :
    ∃ (j' m' : Nat) (R' G' : Nat → Int) (h' : xH), W m_Scr_giveRanks (0, [some (.ref (N + (35 + 3 * i))), some (.ref (N + q)), some (.int (Int32.ofInt ((w : Int)))), none, none, none], []) h = some (.inl none, h') ∧ HB 31 M N h' (gS S i R' G') T ∧ HF 31 M N h h' ∧ RI (S q) (fun j => (cix n g t (px (S q j)) (py (S q j))).toNat) n.toNat R' G' j' m' ∧ j' ≤ w ∧ (j' = w ∨ m' = n.toNat) := by
  have H0 := H
  rw [← gS_0 S i] at H0
  have cR : cell N (36 + 3 * i) (S (36 + 3 * i)) (T (36 + 3 * i)) = jA 0 400 (S (36 + 3 * i)) := (CS N _ _ hi).2.2.2.2.2.2.2.2.2.2.1
  have hR := H.get (k := 36 + 3 * i) (by omega)
  rw [cR] at hR
  have fl := p_fill hW (q := N + (36 + 3 * i)) (m := 400) (v := -1) (F := S (36 + 3 * i)) (h := h) (by omega) hR
  have H1 := H0.put (k := 36 + 3 * i) (fillF (-1) 400 0 (S (36 + 3 * i))) (e := jA 0 400 (fillF (-1) 400 0 (S (36 + 3 * i)))) ((CS N _ _ hi).2.2.2.2.2.2.2.2.2.2.1).symm
  rw [gS_pR] at H1
  obtain ⟨j', m', R', G', h', w1, w2, w3, w4⟩ := p_grL hW hi hM hq en eg et hn hg hc ht hw hp w 0 0 _ _ _ none H1 (by omega) (RI_0 (fun k hk => fill_at 400 0 _ k (by omega) (Or.inl (by omega))))
  refine ⟨j', m', R', G', h', ?_, w2, HF_trans (HF_set (by omega)) w3, w4⟩
  rw [← w1, show ((0 : Nat) : Int) = 0 from rfl]
  simp (disch := omega) only [↓reduceIte, S0, S1, J_lt, J_le, J_eq, J_ldI, J_ldI3, J_ldB, J_ldL, J_ldR, J_stI, J_stB, J_stL, J_dv, j_gne, C0, CM, CP, CR, CJ, CS, CL, and_self, and_true, true_and, and_false, false_and, or_true, true_or, or_false, false_or, not_true_eq_false, not_false_eq_true, Option.map_some, E_Scr_giveRanks hW, H.get, fl]
theorem p_inOrder (hW : xFix V W) (hM : 35 ≤ M) {a b s : Int} {w : Nat} {h : xH} (H : HB 31 M N h S T) (ha : -20 ≤ a ∧ a ≤ 20) (hb : -20 ≤ b ∧ b ≤ 20) (hs : 0 ≤ s ∧ s < 3) (hn : a * a + b * b ≤ 400) (hw : w ≤ 1681) (hB : BDo (S 32) w (a * a + b * b)) :
    ∃ (q : Nat) (B Q : Nat → Int) (h' : xH), (q = 32 ∨ q = 33) ∧ W m_Pla_inOrder (0, [some (.ref (N + 31)), some (.int (Int32.ofInt ((w : Int)))), some (.int (Int32.ofInt a)), some (.int (Int32.ofInt b)), some (.int (Int32.ofInt s))], []) h = some (.inl (some (.ref (N + q))), h') ∧ HB 31 M N h' (qS S B Q) T ∧ HF 31 M N h h' ∧ OF a b s (qS S B Q q) w := by
  by_cases s0 : s = 0
  · subst s0
    refine ⟨32, S 33, S 34, h, Or.inl rfl, ?_, by rw [qS_0]; exact H, HF_refl, by rw [qS_0]; exact OF_round hn hB⟩
    simp (disch := omega) only [↓reduceIte, S0, S1, J_lt, J_le, J_eq, J_ldI, J_ldI3, J_ldB, J_ldL, J_ldR, J_stI, J_stB, J_stL, J_dv, j_gne, C0, CM, CP, CR, CJ, CS, CL, and_self, and_true, true_and, and_false, false_and, or_true, true_or, or_false, false_or, not_true_eq_false, not_false_eq_true, Option.map_some, J_ltT, J_ltF, J_leT, J_leF, J_eqT, J_eqF, J_ntT, J_ntF, E_Pla_inOrder hW, H.get]
  · have hp : ∀ i, i < w → 0 ≤ S 32 i ∧ S 32 i < 1681 := fun i hi => (hB.1 i hi).1
    obtain ⟨B, Q, h', w1, w2, w3, w4⟩ := p_sortByForm hW hM (f := fun k => frm a b s (px (S 32 k)) (py (S 32 k))) H ha hb hs hw hp (fun k hk => ⟨rfl, frm_b (hp k hk) (hB.1 k hk).2 hn (Or.inr rfl)⟩)
    refine ⟨33, B, Q, h', Or.inr rfl, ?_, w2, w3, OF_sort hn hB (fun k hk => rfl) w4⟩
    simp (disch := omega) only [↓reduceIte, S0, S1, J_lt, J_le, J_eq, J_ldI, J_ldI3, J_ldB, J_ldL, J_ldR, J_stI, J_stB, J_stL, J_dv, j_gne, C0, CM, CP, CR, CJ, CS, CL, and_self, and_true, true_and, and_false, false_and, or_true, true_or, or_false, false_or, not_true_eq_false, not_false_eq_true, Option.map_some, J_ltT, J_ltF, J_leT, J_leF, J_eqT, J_eqF, J_ntT, J_ntF, E_Pla_inOrder hW, H.get, w2.get, w1]
theorem p_slay (hW : xFix V W) {i c : Nat} {h : xH} (H : HB 31 M N h S T) (hi : i < 8) (hM : 38 + 3 * i ≤ M) {a b s : Int} (ha : -20 ≤ a ∧ a ≤ 20) (hb : -20 ≤ b ∧ b ≤ 20) (hs : 0 ≤ s ∧ s < 3) (hn : 1 ≤ a * a + b * b ∧ a * a + b * b ≤ 400) (hc : S 31 3 = c) (hc2 : c ≤ 1681) (hB : BDo (S 32) c 400) :
    ∃ (h' : xH) (S' : Nat → Nat → Int), W m_Scr_lay (0, [some (.ref (N + (35 + 3 * i))), some (.int (Int32.ofInt a)), some (.int (Int32.ofInt b)), some (.int (Int32.ofInt s)), none], []) h = some (.inl none, h') ∧ HB 31 M N h' S' T ∧ HF 31 M N h h' ∧ (∀ k, k ≠ 33 → k ≠ 34 → k ≠ 35 + 3 * i → k ≠ 36 + 3 * i → k ≠ 37 + 3 * i → S' k = S k) ∧ S' (35 + 3 * i) 3 = a * a + b * b ∧ SCR a b s (S' (35 + 3 * i) 4) (S' (35 + 3 * i) 5) (S' (36 + 3 * i)) (S' (37 + 3 * i)) := by
  obtain ⟨⟨g0, g20⟩, ga, gb, z, w', bz⟩ := bz_gd ha hb (by omega)
  obtain ⟨t0, th, t1, t2⟩ := sh_ex (by omega) bz
  have H2 := H.put (k := 35 + 3 * i) (jup (jup (S (35 + 3 * i)) 3 (a * a + b * b)) 4 (gdv a b 20)) rfl
  have gd := fun h => p_greatestDivisor (h := h) hW ha hb
  obtain ⟨t, u1, u2, u3, u4⟩ := p_shiftOfRows hW hi hM H2 (n := a * a + b * b) (g := gdv a b 20) (a := a) (b := b) (t0 := t0) (by rw [sup_same, jup_ne _ _ (by omega), jup_same]) (by rw [sup_same, jup_same]) hn ⟨g0, g20⟩ ha hb ⟨th, t1, t2⟩
  have H3 := H.put (k := 35 + 3 * i) (jup (jup (jup (S (35 + 3 * i)) 3 (a * a + b * b)) 4 (gdv a b 20)) 5 t) rfl
  have f3 : (jup (jup (jup (S (35 + 3 * i)) 3 (a * a + b * b)) 4 (gdv a b 20)) 5 t) 3 = a * a + b * b := by rw [jup_ne _ _ (by omega), jup_ne _ _ (by omega), jup_same]
  have f4 : (jup (jup (jup (S (35 + 3 * i)) 3 (a * a + b * b)) 4 (gdv a b 20)) 5 t) 4 = gdv a b 20 := by rw [jup_ne _ _ (by omega), jup_same]
  have f5 : (jup (jup (jup (S (35 + 3 * i)) 3 (a * a + b * b)) 4 (gdv a b 20)) 5 t) 5 = t := jup_same _ _ _
  generalize hF : jup (jup (jup (S (35 + 3 * i)) 3 (a * a + b * b)) 4 (gdv a b 20)) 5 t = F at *
  have n32 : sup S (35 + 3 * i) F 32 = S 32 := sup_ne _ _ (by omega)
  obtain ⟨w, v1, v2, v3, v4⟩ := p_countWithin hW (by omega) H3 (n := a * a + b * b) (c := c) (by rw [sup_ne _ _ (by omega)]; exact hc) hc2 (by omega) (by rw [n32]; exact fun j hj => (hB.1 j hj).1)
  rw [n32] at v3 v4
  have Bw := BDo_cut hB v2 (by omega) v3 v4
  obtain ⟨q, B, Q, h4, hq, x1, H4, x3, x4⟩ := p_inOrder hW (by omega) H3 ha hb hs hn.2 (w := w) (by omega) (by rw [n32]; exact Bw)
  obtain ⟨a', ea⟩ := ga
  obtain ⟨b', eb⟩ := gb
  have ncol : a * a + b * b = gdv a b 20 * (a * a' + b * b') := by
    have e1 : a * a = gdv a b 20 * (a * a') := by
      have : a * a = a * (gdv a b 20 * a') := congrArg (fun z => a * z) ea
      rw [this]; grind
    have e2 : b * b = gdv a b 20 * (b * b') := by
      have : b * b = b * (gdv a b 20 * b') := congrArg (fun z => b * z) eb
      rw [this]; grind
    rw [e1, e2]; grind
  have s35 : qS (sup S (35 + 3 * i) F) B Q (35 + 3 * i) = F := by rw [qS_ne _ _ _ (by omega), sup_same]
  obtain ⟨j', m', R', G', h5, y1, H5, y3, y4, y5, y6⟩ := p_giveRanks hW H4 hi hM hq (n := a * a + b * b) (g := gdv a b 20) (t := t) (c := a * a' + b * b') (by rw [s35]; exact f3) (by rw [s35]; exact f4) (by rw [s35]; exact f5) hn ⟨g0, g20⟩ ncol u2 (w := w) (by omega) (fun j hj => (x4.1 j hj).1)
  have sc := SCR_of (s := s) hn ⟨g0, g20⟩ ⟨a', ea⟩ ⟨b', eb⟩ bz u2 u3 u4 x4 y4 y5 y6
  refine ⟨h5, _, ?_, H5, HF_trans (HF_trans (HF_set (k := 35 + 3 * i) (by omega)) x3) y3, fun k k1 k2 k3 k4 k5 => by rw [gS_ne _ _ _ _ ⟨k4, k5⟩, qS_ne _ _ _ ⟨k1, k2⟩, sup_ne _ _ k3], ?_, ?_⟩
  · subst hF
    simp (disch := omega) only [↓reduceIte, S0, S1, J_lt, J_le, J_eq, J_ldI, J_ldI3, J_ldB, J_ldL, J_ldR, J_stI, J_stB, J_stL, J_dv, j_gne, C0, CM, CP, CR, CJ, CS, CL, and_self, and_true, true_and, and_false, false_and, or_true, true_or, or_false, false_or, not_true_eq_false, not_false_eq_true, Option.map_some, E_Scr_lay hW, H.get, gd, u1, f3, v1, H4.get, x1, y1]
  · rw [gS_ne _ _ _ _ (by omega), s35]; exact f3
  · rw [gS_R, gS_G, gS_ne _ _ _ _ (by omega), s35, f4, f5]; exact sc
end CDS
