/-! the reference knows all hearts of an ink -/
theorem HL_pos {a b s u v : Int} {X Y : Nat → Int} (hn : a * a + b * b ≤ 400) (hh : hrt a b s u v) : ∀ m, HL a b s X Y m → (∀ k, k < m → ¬ (X k = u ∧ Y k = v)) → ∃ k, k ≤ m ∧ (∀ j, j < k → ky a b s (X j) (Y j) < ky a b s u v) ∧ ∀ j, k ≤ j → j < m → ky a b s u v < ky a b s (X j) (Y j) := by
  intro m
  induction m with
  | zero => intro _ _; exact ⟨0, by omega, fun j hj => by omega, fun j _ hj => by omega⟩
  | succ m ih =>
    intro L nw
    obtain ⟨k, k1, k2, k3⟩ := ih ⟨fun k hk => L.1 k (by omega), fun j k h1 h2 => L.2 j k h1 (by omega)⟩ (fun k hk => nw k (by omega))
    rcases Nat.lt_or_ge k m with c | c
    · refine ⟨k, by omega, k2, fun j j1 j2 => ?_⟩
      rcases Nat.lt_or_ge j m with d | d
      · exact k3 j j1 d
      · rw [show j = m by omega]
        have := k3 k (by omega) c
        have := L.2 k m c (by omega)
        omega
    · have ek : k = m := by omega
      subst ek
      have f1 := hrt_far hn hh
      have f2 := hrt_far hn (L.1 k (by omega))
      have ne : ky a b s (X k) (Y k) ≠ ky a b s u v := fun c => nw k (by omega) (ky_inj (a := a) (b := b) (s := s) (by omega) (by omega) c)
      rcases Int.lt_or_le (ky a b s (X k) (Y k)) (ky a b s u v) with d | d
      · refine ⟨k + 1, by omega, fun j hj => ?_, fun j j1 j2 => by omega⟩
        rcases Nat.lt_or_ge j k with e | e
        · exact k2 j e
        · rw [show j = k by omega]; exact d
      · refine ⟨k, by omega, k2, fun j j1 j2 => ?_⟩
        rw [show j = k by omega]; omega
theorem HL_room {a b s g t u v : Int} {R G X Y : Nat → Int} {m : Nat} (hn : a * a + b * b ≤ 400) (hS : SCR a b s g t R G) (hh : hrt a b s u v) (L : HL a b s X Y m) (nw : ∀ k, k < m → ¬ (X k = u ∧ Y k = v)) : ((m + 1 : Nat) : Int) ≤ a * a + b * b := by
  obtain ⟨k, k1, k2, k3⟩ := HL_pos hn hh m L nw
  have := (HL_ins (X' := fun j => if j < k then X j else if j = k then u else X (j - 1)) (Y' := fun j => if j < k then Y j else if j = k then v else Y (j - 1)) L hh k1 k2 k3 (fun j hj => by simp only [if_pos hj]; exact ⟨trivial, trivial⟩) (by simp only [if_neg (Nat.lt_irrefl k), if_true]; exact ⟨trivial, trivial⟩) (fun j j1 j2 => by
    simp only [if_neg (show ¬ j + 1 < k by omega), if_neg (show ¬ j + 1 = k by omega), Nat.add_sub_cancel]; exact ⟨trivial, trivial⟩)).1
  exact HL_le hn hS this
section QIS
variable {V : Nat → Value} {W : xWt} {N : Nat} {T : Nat → Nat → Int64}
theorem q_addHeart (hW : xFix V W) {S : Nat → Nat → Int} {h : xH} (H : HP N h S T) {ink a b s : Int} {m : Nat} (hi : 0 ≤ ink ∧ ink < 8) (ea : S 88 ink.toNat = a) (eb : S 89 ink.toNat = b) (es : S 90 ink.toNat = s) (ha : -20 ≤ a ∧ a ≤ 20) (hb : -20 ≤ b ∧ b ≤ 20) (hs : 0 ≤ s ∧ s < 3) (hn : a * a + b * b ≤ 400) (h4 : m < 400) (hm : S 92 ink.toNat = m)
    (L : HL a b s (fun k => S 93 (400 * ink.toNat + k)) (fun k => S 94 (400 * ink.toNat + k)) m) (hh : hrt a b s (S 78 19) (S 78 20)) (nw : ∀ k, k < m → ¬ (S 93 (400 * ink.toNat + k) = S 78 19 ∧ S 94 (400 * ink.toNat + k) = S 78 20)) :
    ∃ (h' : xH) (X Y : Nat → Int), W m_Mod_addHeart (0, [some (.ref (N + 78)), some (.int (Int32.ofInt ink)), none, none], []) h = some (.inl none, h') ∧ HP N h' (aS S (jup (S 92) ink.toNat (m + 1)) X Y) T ∧ h'.2 = h.2 ∧ HL a b s (fun k => X (400 * ink.toNat + k)) (fun k => Y (400 * ink.toNat + k)) (m + 1) ∧
      (∀ j, j < m → ∃ i, i < m + 1 ∧ X (400 * ink.toNat + i) = S 93 (400 * ink.toNat + j) ∧ Y (400 * ink.toNat + i) = S 94 (400 * ink.toNat + j)) ∧ (∃ i, i < m + 1 ∧ X (400 * ink.toNat + i) = S 78 19 ∧ Y (400 * ink.toNat + i) = S 78 20) ∧ ∀ j, j < 400 * ink.toNat ∨ 400 * ink.toNat + 400 ≤ j → X j = S 93 j ∧ Y j = S 94 j := by
  have H1 := H.put (k := 92) (by omega) (jup (S 92) ink.toNat (m + 1)) rfl
  rw [aS_0] at H1
  obtain ⟨h', X, Y, k, z1, z2, z3, ⟨b1, b2, b3, b4⟩, z5⟩ := q_ahL hW hi ea eb es ha hb hs hn h4 L hh nw m _ _ _ H1 ⟨Nat.le_refl _, fun j hj => ⟨rfl, rfl⟩, fun j j1 j2 => by omega, fun j hj => ⟨rfl, rfl⟩⟩
  have ins := HL_ins (X' := fun j => jup X (400 * ink.toNat + k) (S 78 19) (400 * ink.toNat + j)) (Y' := fun j => jup Y (400 * ink.toNat + k) (S 78 20) (400 * ink.toNat + j)) L hh b1 z5 (fun j j1 j2 => (b3 j j1 j2).2.2) (fun j hj => by
      rw [jup_ne _ _ (by omega), jup_ne _ _ (by omega)]; exact b2 j hj) (by simp only [jup_same]; exact ⟨trivial, trivial⟩) (fun j j1 j2 => by
      rw [jup_ne _ _ (by omega), jup_ne _ _ (by omega)]; exact ⟨(b3 j j1 j2).1, (b3 j j1 j2).2.1⟩)
  refine ⟨h', _, _, ?_, z2, z3, ins.1, ins.2.1, ins.2.2, fun j hj => ?_⟩
  · rw [← z1]
    simp (disch := omega) only [↓reduceIte, S0, S1, J_lt, J_le, J_eq, J_ldI, J_ldI3, J_ldB, J_ldL, J_ldR, J_stI, J_stB, J_stL, J_dv, j_gne, C0, CM, CP, CR, CJ, CS, CL, and_self, and_true, true_and, and_false, false_and, or_true, true_or, or_false, false_or, not_true_eq_false, not_false_eq_true, Option.map_some, E_Mod_addHeart hW, H.get, hm]
  · rw [jup_ne _ _ (by omega), jup_ne _ _ (by omega)]; exact b4 j (by omega)
/-- what knowing an ink may change -/
def KF (i : Nat) (S S' : Nat → Nat → Int) : Prop := (∀ k, k ≠ 78 → k ≠ 91 → k ≠ 92 → k ≠ 93 → k ≠ 94 → S' k = S k) ∧ (∀ f, f ≠ 19 → f ≠ 20 → S' 78 f = S 78 f) ∧ (∀ j, j ≠ i → S' 91 j = S 91 j ∧ S' 92 j = S 92 j) ∧ ∀ j, j < 400 * i ∨ 400 * i + 400 ≤ j → S' 93 j = S 93 j ∧ S' 94 j = S 94 j
theorem KF_refl {i : Nat} {S : Nat → Nat → Int} : KF i S S := ⟨fun _ _ _ _ _ _ => rfl, fun _ _ _ => rfl, fun _ _ => ⟨rfl, rfl⟩, fun _ _ => ⟨rfl, rfl⟩⟩
theorem KF_trans {i : Nat} {S S' S'' : Nat → Nat → Int} (h : KF i S S') (h' : KF i S' S'') : KF i S S'' :=
  ⟨fun k a b c d e => (h'.1 k a b c d e).trans (h.1 k a b c d e), fun f a b => (h'.2.1 f a b).trans (h.2.1 f a b), fun j a => ⟨(h'.2.2.1 j a).1.trans (h.2.2.1 j a).1, (h'.2.2.1 j a).2.trans (h.2.2.1 j a).2⟩, fun j a => ⟨(h'.2.2.2 j a).1.trans (h.2.2.2 j a).1, (h'.2.2.2 j a).2.trans (h.2.2.2 j a).2⟩⟩
theorem KF_hxy {i : Nat} {S : Nat → Nat → Int} {p q : Int} : KF i S (hxy S p q) :=
  ⟨fun k a _ _ _ _ => hxy_ne S p q a, fun f a b => hxy_f S p q ⟨a, b⟩, fun j _ => by rw [hxy_ne _ _ _ (by omega), hxy_ne _ _ _ (by omega)]; exact ⟨rfl, rfl⟩, fun j _ => by rw [hxy_ne _ _ _ (by omega), hxy_ne _ _ _ (by omega)]; exact ⟨rfl, rfl⟩⟩
def KN (S : Nat → Nat → Int) (i : Nat) (a b s : Int) (m : Nat) : Prop := S 92 i = m ∧ HL a b s (fun k => S 93 (400 * i + k)) (fun k => S 94 (400 * i + k)) m
def PX (y0 x0 x y : Int) : Prop := (-15 ≤ x ∧ x ≤ 15 ∧ -15 ≤ y ∧ y ≤ 15) ∧ (y < y0 ∨ (y = y0 ∧ x < x0))
def KI (Sz S : Nat → Nat → Int) (i : Nat) (a b s : Int) (P : Int → Int → Prop) : Prop := KF i Sz S ∧ S 91 i = 1 ∧ ∃ m : Nat, KN S i a b s m ∧ ∀ x y, P x y → ∃ k, k < m ∧ sc a b x y (S 93 (400 * i + k)) (S 94 (400 * i + k))
theorem q_knowStep (hW : xFix V W) {Sz S : Nat → Nat → Int} {h : xH} (H : HP N h S T) {ink a b s g t x y : Int} {R G : Nat → Int} {P : Int → Int → Prop} (hi : 0 ≤ ink ∧ ink < 8) (ea : Sz 88 ink.toNat = a) (eb : Sz 89 ink.toNat = b) (es : Sz 90 ink.toNat = s) (ha : -20 ≤ a ∧ a ≤ 20) (hb : -20 ≤ b ∧ b ≤ 20) (hs : 0 ≤ s ∧ s < 3) (hn : 1 ≤ a * a + b * b ∧ a * a + b * b ≤ 400)
    (hS : SCR a b s g t R G) (K : KI Sz S ink.toNat a b s P) (hx : -1000 ≤ x ∧ x ≤ 1000) (hy : -1000 ≤ y ∧ y ≤ 1000) :
    ∃ (h' : xH) (S' : Nat → Nat → Int), W m_Mod_know (42, [some (.ref (N + 78)), some (.int (Int32.ofInt ink)), some (.int (Int32.ofInt y)), some (.int (Int32.ofInt x))], []) h = W m_Mod_know (36, [some (.ref (N + 78)), some (.int (Int32.ofInt ink)), some (.int (Int32.ofInt y)), some (.int (Int32.ofInt (x + 1)))], []) h' ∧ HP N h' S' T ∧ h'.2 = h.2 ∧ KI Sz S' ink.toNat a b s (fun x' y' => P x' y' ∨ (x' = x ∧ y' = y)) := by
  obtain ⟨kf, k91, m, ⟨hm, L⟩, al⟩ := K
  have ea' : S 88 ink.toNat = a := by rw [kf.1 88 (by omega) (by omega) (by omega) (by omega) (by omega)]; exact ea
  have eb' : S 89 ink.toNat = b := by rw [kf.1 89 (by omega) (by omega) (by omega) (by omega) (by omega)]; exact eb
  have es' : S 90 ink.toNat = s := by rw [kf.1 90 (by omega) (by omega) (by omega) (by omega) (by omega)]; exact es
  obtain ⟨p, q, h1, f1, H1, f3, f4, f5⟩ := q_findHeart hW H hi ea' eb' es' ha hb hs hn hx hy
  have mb := HL_le hn.2 hS L
  have pq := hrt_far hn.2 f4
  have nb := q_heartNumber hW H1 hi (m := m) (by rw [hxy_ne _ _ _ (by omega)]; exact hm) (by omega) (fun k hk => by
    rw [hxy_ne _ _ _ (by omega), hxy_ne _ _ _ (by omega)]
    have := hrt_far hn.2 (L.1 k hk)
    simp only [] at this
    unfold j32; omega) (by rw [hxy_x, hxy_y]; unfold j32; omega)
  rw [hxy_x, hxy_y, hxy_ne _ _ _ (by omega), hxy_ne _ _ _ (by omega)] at nb
  have bd := hN_b (fun k => S 93 (400 * ink.toNat + k)) (fun k => S 94 (400 * ink.toNat + k)) p q m
  by_cases c : 0 ≤ hN (fun k => S 93 (400 * ink.toNat + k)) (fun k => S 94 (400 * ink.toNat + k)) p q m
  · refine ⟨h1, hxy S p q, ?_, H1, f3, KF_trans kf KF_hxy, by rw [hxy_ne _ _ _ (by omega)]; exact k91, m, ⟨by rw [hxy_ne _ _ _ (by omega)]; exact hm, by rw [hxy_ne _ _ _ (by omega), hxy_ne _ _ _ (by omega)]; exact L⟩, fun x' y' c' => ?_⟩
    · simp (disch := omega) only [↓reduceIte, S0, S1, J_lt, J_le, J_eq, J_ldI, J_ldI3, J_ldB, J_ldL, J_ldR, J_stI, J_stB, J_stL, J_dv, j_gne, C0, CM, CP, CR, CJ, CS, CL, and_self, and_true, true_and, and_false, false_and, or_true, true_or, or_false, false_or, not_true_eq_false, not_false_eq_true, Option.map_some, J_ltT, J_ltF, J_leT, J_leF, J_eqT, J_eqF, J_ntT, J_ntF, E_Mod_know hW, H.get, H1.get, f1, nb]
    · rw [hxy_ne _ _ _ (by omega), hxy_ne _ _ _ (by omega)]
      rcases c' with c' | ⟨c1, c2⟩
      · exact al x' y' c'
      · obtain ⟨g1, g2, g3⟩ := hN_some c
        refine ⟨(hN (fun k => S 93 (400 * ink.toNat + k)) (fun k => S 94 (400 * ink.toNat + k)) p q m).toNat, by omega, ?_⟩
        rw [g2, g3, c1, c2]
        exact f5
  · have nw := hN_ne (show hN (fun k => S 93 (400 * ink.toNat + k)) (fun k => S 94 (400 * ink.toNat + k)) p q m < 0 by omega)
    have rm := HL_room hn.2 hS f4 L nw
    obtain ⟨h2, X, Y, a1, H2, a3, a4, a5, a6, a7⟩ := q_addHeart hW H1 hi (m := m) (by rw [hxy_ne _ _ _ (by omega)]; exact ea') (by rw [hxy_ne _ _ _ (by omega)]; exact eb') (by rw [hxy_ne _ _ _ (by omega)]; exact es') ha hb hs hn.2 (by omega) (by rw [hxy_ne _ _ _ (by omega)]; exact hm)
      (by rw [hxy_ne _ _ _ (by omega), hxy_ne _ _ _ (by omega)]; exact L) (by rw [hxy_x, hxy_y]; exact f4) (by rw [hxy_x, hxy_y, hxy_ne _ _ _ (by omega), hxy_ne _ _ _ (by omega)]; exact nw)
    rw [hxy_x, hxy_y] at a6
    rw [hxy_ne _ _ _ (by omega), hxy_ne _ _ _ (by omega)] at a5 a7
    rw [show hxy S p q 92 = S 92 from hxy_ne _ _ _ (by omega)] at H2
    refine ⟨h2, _, ?_, H2, a3.trans f3, KF_trans (KF_trans kf (KF_hxy (p := p) (q := q))) ⟨fun k a b c d e => aS_ne _ _ _ _ ⟨c, d, e⟩, fun f a b => by rw [aS_ne _ _ _ _ (by omega)], fun j hj => ?_, fun j hj => ?_⟩, ?_, m + 1, ⟨?_, ?_⟩, fun x' y' c' => ?_⟩
    · simp (disch := omega) only [↓reduceIte, S0, S1, J_lt, J_le, J_eq, J_ldI, J_ldI3, J_ldB, J_ldL, J_ldR, J_stI, J_stB, J_stL, J_dv, j_gne, C0, CM, CP, CR, CJ, CS, CL, and_self, and_true, true_and, and_false, false_and, or_true, true_or, or_false, false_or, not_true_eq_false, not_false_eq_true, Option.map_some, J_ltT, J_ltF, J_leT, J_leF, J_eqT, J_eqF, J_ntT, J_ntF, E_Mod_know hW, H.get, H1.get, f1, nb, a1]
    · rw [aS_ne _ _ _ _ (by omega), aS_92, jup_ne _ _ hj, hxy_ne _ _ _ (by omega), hxy_ne _ _ _ (by omega)]; exact ⟨rfl, rfl⟩
    · rw [aS_93, aS_94, hxy_ne _ _ _ (by omega), hxy_ne _ _ _ (by omega)]; exact a7 j hj
    · rw [aS_ne _ _ _ _ (by omega), hxy_ne _ _ _ (by omega)]; exact k91
    · rw [aS_92, jup_same]; rfl
    · rw [aS_93, aS_94]; exact a4
    · rw [aS_93, aS_94]
      rcases c' with c' | ⟨c1, c2⟩
      · obtain ⟨k, d1, d2⟩ := al x' y' c'
        obtain ⟨i, i1, i2, i3⟩ := a5 k d1
        exact ⟨i, i1, by rw [i2, i3]; exact d2⟩
      · obtain ⟨i, i1, i2, i3⟩ := a6
        exact ⟨i, i1, by rw [i2, i3, c1, c2]; exact f5⟩
theorem KI_cg {Sz S : Nat → Nat → Int} {i : Nat} {a b s : Int} {P Q : Int → Int → Prop} (h : KI Sz S i a b s P) (hQ : ∀ x y, Q x y → P x y) : KI Sz S i a b s Q := by
  obtain ⟨h1, h2, m, h3, h4⟩ := h
  exact ⟨h1, h2, m, h3, fun x y c => h4 x y (hQ x y c)⟩
theorem q_knowIn (hW : xFix V W) {Sz : Nat → Nat → Int} {ink a b s g t y : Int} {R G : Nat → Int} (hi : 0 ≤ ink ∧ ink < 8) (ea : Sz 88 ink.toNat = a) (eb : Sz 89 ink.toNat = b) (es : Sz 90 ink.toNat = s) (ha : -20 ≤ a ∧ a ≤ 20) (hb : -20 ≤ b ∧ b ≤ 20) (hs : 0 ≤ s ∧ s < 3) (hn : 1 ≤ a * a + b * b ∧ a * a + b * b ≤ 400)
    (hS : SCR a b s g t R G) (hy : -15 ≤ y ∧ y ≤ 15) : ∀ (r : Nat) (x : Int) (S : Nat → Nat → Int) (h : xH), HP N h S T → -15 ≤ x → x + r = 16 → KI Sz S ink.toNat a b s (PX y x) →
    ∃ (h' : xH) (S' : Nat → Nat → Int), W m_Mod_know (36, [some (.ref (N + 78)), some (.int (Int32.ofInt ink)), some (.int (Int32.ofInt y)), some (.int (Int32.ofInt x))], []) h = W m_Mod_know (68, [some (.ref (N + 78)), some (.int (Int32.ofInt ink)), some (.int (Int32.ofInt y)), some (.int (Int32.ofInt 16))], []) h' ∧ HP N h' S' T ∧ h'.2 = h.2 ∧ KI Sz S' ink.toNat a b s (PX y 16) := by
  intro r
  induction r with
  | zero =>
    intro x S h H x0 x1 K
    have : x = 16 := by omega
    subst this
    refine ⟨h, S, ?_, H, rfl, K⟩
    rw [L_Mod_know_36 hW]
    simp (disch := omega) only [↓reduceIte, S0, S1, J_lt, J_le, J_eq, J_ldI, J_ldI3, J_ldB, J_ldL, J_ldR, J_stI, J_stB, J_stL, J_dv, j_gne, C0, CM, CP, CR, CJ, CS, CL, and_self, and_true, true_and, and_false, false_and, or_true, true_or, or_false, false_or, not_true_eq_false, not_false_eq_true, Option.map_some, J_ltT, J_ltF, J_leT, J_leF, J_eqT, J_eqF, J_ntT, J_ntF]
  | succ r ih =>
    intro x S h H x0 x1 K
    obtain ⟨h1, S1', s1, s2, s3, s4⟩ := q_knowStep hW H hi ea eb es ha hb hs hn hS K (x := x) (y := y) (by omega) (by omega)
    obtain ⟨h2, S2', t1, t2, t3, t4⟩ := ih (x + 1) S1' h1 s2 (by omega) (by omega) (KI_cg s4 (fun x' y' c => by unfold PX at *; omega))
    refine ⟨h2, S2', ?_, t2, t3.trans s3, t4⟩
    rw [L_Mod_know_36 hW, ← t1, ← s1]
    simp (disch := omega) only [↓reduceIte, S0, S1, J_lt, J_le, J_eq, J_ldI, J_ldI3, J_ldB, J_ldL, J_ldR, J_stI, J_stB, J_stL, J_dv, j_gne, C0, CM, CP, CR, CJ, CS, CL, and_self, and_true, true_and, and_false, false_and, or_true, true_or, or_false, false_or, not_true_eq_false, not_false_eq_true, Option.map_some, J_ltT, J_ltF, J_leT, J_leF, J_eqT, J_eqF, J_ntT, J_ntF]
theorem q_knowOut (hW : xFix V W) {Sz : Nat → Nat → Int} {ink a b s g t : Int} {R G : Nat → Int} (hi : 0 ≤ ink ∧ ink < 8) (ea : Sz 88 ink.toNat = a) (eb : Sz 89 ink.toNat = b) (es : Sz 90 ink.toNat = s) (ha : -20 ≤ a ∧ a ≤ 20) (hb : -20 ≤ b ∧ b ≤ 20) (hs : 0 ≤ s ∧ s < 3) (hn : 1 ≤ a * a + b * b ∧ a * a + b * b ≤ 400)
    (hS : SCR a b s g t R G) : ∀ (r : Nat) (y : Int) (S : Nat → Nat → Int) (h : xH) (s3 : Option Value), HP N h S T → -15 ≤ y → y + r = 16 → KI Sz S ink.toNat a b s (PX y (-15)) →
    ∃ (h' : xH) (S' : Nat → Nat → Int), W m_Mod_know (27, [some (.ref (N + 78)), some (.int (Int32.ofInt ink)), some (.int (Int32.ofInt y)), s3], []) h = some (.inl none, h') ∧ HP N h' S' T ∧ h'.2 = h.2 ∧ KI Sz S' ink.toNat a b s (PX 16 (-15)) := by
  intro r
  induction r with
  | zero =>
    intro y S h s3 H y0 y1 K
    have : y = 16 := by omega
    subst this
    refine ⟨h, S, ?_, H, rfl, K⟩
    rw [L_Mod_know_27 hW]
    simp (disch := omega) only [↓reduceIte, S0, S1, J_lt, J_le, J_eq, J_ldI, J_ldI3, J_ldB, J_ldL, J_ldR, J_stI, J_stB, J_stL, J_dv, j_gne, C0, CM, CP, CR, CJ, CS, CL, and_self, and_true, true_and, and_false, false_and, or_true, true_or, or_false, false_or, not_true_eq_false, not_false_eq_true, Option.map_some, J_ltT, J_ltF, J_leT, J_leF, J_eqT, J_eqF, J_ntT, J_ntF, E_Mod_know hW]
  | succ r ih =>
    intro y S h s3 H y0 y1 K
    obtain ⟨h1, S1', s1, s2, s3', s4⟩ := q_knowIn hW hi ea eb es ha hb hs hn hS (y := y) (by omega) 31 (-15) S h H (by omega) (by omega) K
    obtain ⟨h2, S2', t1, t2, t3, t4⟩ := ih (y + 1) S1' h1 (some (.int (Int32.ofInt 16))) s2 (by omega) (by omega) (KI_cg s4 (fun x' y' c => by unfold PX at *; omega))
    refine ⟨h2, S2', ?_, t2, t3.trans s3', t4⟩
    rw [L_Mod_know_27 hW, ← t1]
    simp (disch := omega) only [↓reduceIte, S0, S1, J_lt, J_le, J_eq, J_ldI, J_ldI3, J_ldB, J_ldL, J_ldR, J_stI, J_stB, J_stL, J_dv, j_gne, C0, CM, CP, CR, CJ, CS, CL, and_self, and_true, true_and, and_false, false_and, or_true, true_or, or_false, false_or, not_true_eq_false, not_false_eq_true, Option.map_some, J_ltT, J_ltF, J_leT, J_leF, J_eqT, J_eqF, J_ntT, J_ntF, E_Mod_know hW, s1]
/-- an ink that is known -/
def KD (S : Nat → Nat → Int) (i : Nat) (a b s : Int) : Prop := S 91 i = 1 ∧ ∃ m : Nat, KN S i a b s m ∧ ∀ x y, hrt a b s x y → ∃ k, k < m ∧ S 93 (400 * i + k) = x ∧ S 94 (400 * i + k) = y
theorem q_know (hW : xFix V W) {S : Nat → Nat → Int} {h : xH} (H : HP N h S T) {ink a b s g t : Int} {R G : Nat → Int} (hi : 0 ≤ ink ∧ ink < 8) (ea : S 88 ink.toNat = a) (eb : S 89 ink.toNat = b) (es : S 90 ink.toNat = s) (ha : -20 ≤ a ∧ a ≤ 20) (hb : -20 ≤ b ∧ b ≤ 20) (hs : 0 ≤ s ∧ s < 3) (hn : 1 ≤ a * a + b * b ∧ a * a + b * b ≤ 400)
    (hS : SCR a b s g t R G) (hk : S 91 ink.toNat = 0 ∨ KD S ink.toNat a b s) :
    ∃ (h' : xH) (S' : Nat → Nat → Int), W m_Mod_know (0, [some (.ref (N + 78)), some (.int (Int32.ofInt ink)), none, none], []) h = some (.inl none, h') ∧ HP N h' S' T ∧ h'.2 = h.2 ∧ KF ink.toNat S S' ∧ KD S' ink.toNat a b s := by
  rcases hk with k0 | k1
  · have H1 := H.put (k := 91) (by omega) (jup (S 91) ink.toNat 1) rfl
    have H2 := H1.put (k := 92) (by omega) (jup (S 92) ink.toNat 0) rfl
    obtain ⟨h', S', z1, z2, z3, z4, z5, m, z6, z7⟩ := q_knowOut (Sz := S) hW hi ea eb es ha hb hs hn hS 31 (-15) _ _ none H2 (by omega) (by omega) ⟨⟨fun k a b c d e => by rw [sup_ne _ _ c, sup_ne _ _ b], fun f a b => by rw [sup_ne _ _ (by omega), sup_ne _ _ (by omega)], fun j hj => by
        rw [sup_ne _ _ (by omega), sup_same, sup_same, jup_ne _ _ hj, jup_ne _ _ hj]; exact ⟨rfl, rfl⟩, fun j hj => by rw [sup_ne _ _ (by omega), sup_ne _ _ (by omega), sup_ne _ _ (by omega), sup_ne _ _ (by omega)]; exact ⟨rfl, rfl⟩⟩,
        by rw [sup_ne _ _ (by omega), sup_same, jup_same], 0, ⟨by rw [sup_same, jup_same]; rfl, fun k hk => by omega, fun j k h1 h2 => by omega⟩, fun x y c => by unfold PX at c; omega⟩
    refine ⟨h', S', ?_, z2, z3, z4, z5, m, z6, ?_⟩
    · rw [← z1]
      simp (disch := omega) only [↓reduceIte, S0, S1, J_lt, J_le, J_eq, J_ldI, J_ldI3, J_ldB, J_ldL, J_ldR, J_stI, J_stB, J_stL, J_dv, j_gne, C0, CM, CP, CR, CJ, CS, CL, and_self, and_true, true_and, and_false, false_and, or_true, true_or, or_false, false_or, not_true_eq_false, not_false_eq_true, Option.map_some, J_ltT, J_ltF, J_leT, J_leF, J_eqT, J_eqF, J_ntT, J_ntF, E_Mod_know hW, H.get, H1.get, k0, sup_ne, sup_same]
    · refine sq_all hn z6.2 (fun x y c1 c2 => z7 x y (by unfold PX; omega))
  · refine ⟨h, S, ?_, H, rfl, KF_refl, k1⟩
    obtain ⟨k2, -⟩ := k1
    simp (disch := omega) only [↓reduceIte, S0, S1, J_lt, J_le, J_eq, J_ldI, J_ldI3, J_ldB, J_ldL, J_ldR, J_stI, J_stB, J_stL, J_dv, j_gne, C0, CM, CP, CR, CJ, CS, CL, and_self, and_true, true_and, and_false, false_and, or_true, true_or, or_false, false_or, not_true_eq_false, not_false_eq_true, Option.map_some, J_ltT, J_ltF, J_leT, J_leF, J_eqT, J_eqF, J_ntT, J_ntF, E_Mod_know hW, H.get, k2]
/-- the rank of a place, in the reference -/
theorem q_rankOf (hW : xFix V W) {S : Nat → Nat → Int} {h : xH} (H : HP N h S T) {ink a b s g t x y : Int} {R G : Nat → Int} (hi : 0 ≤ ink ∧ ink < 8) (ea : S 88 ink.toNat = a) (eb : S 89 ink.toNat = b) (es : S 90 ink.toNat = s) (ha : -20 ≤ a ∧ a ≤ 20) (hb : -20 ≤ b ∧ b ≤ 20) (hs : 0 ≤ s ∧ s < 3) (hn : 1 ≤ a * a + b * b ∧ a * a + b * b ≤ 400)
    (hS : SCR a b s g t R G) (hk : S 91 ink.toNat = 0 ∨ KD S ink.toNat a b s) (hx : -1000 ≤ x ∧ x ≤ 1000) (hy : -1000 ≤ y ∧ y ≤ 1000) :
    ∃ (h' : xH) (S' : Nat → Nat → Int), W m_Mod_rankOf (0, [some (.ref (N + 78)), some (.int (Int32.ofInt ink)), some (.int (Int32.ofInt x)), some (.int (Int32.ofInt y))], []) h = some (.inl (some (jI (R (cix (a * a + b * b) g t x y).toNat))), h') ∧ HP N h' S' T ∧ h'.2 = h.2 ∧ KF ink.toNat S S' ∧ KD S' ink.toNat a b s := by
  obtain ⟨h1, Sa, w1, H1, w3, w4, w5, m, ⟨w6, w7⟩, w8⟩ := q_know hW H hi ea eb es ha hb hs hn hS hk
  obtain ⟨p, q, h2, f1, H2, f3, f4, f5⟩ := q_findHeart hW H1 hi (by rw [w4.1 88 (by omega) (by omega) (by omega) (by omega) (by omega)]; exact ea) (by rw [w4.1 89 (by omega) (by omega) (by omega) (by omega) (by omega)]; exact eb) (by rw [w4.1 90 (by omega) (by omega) (by omega) (by omega) (by omega)]; exact es) ha hb hs hn hx hy
  have mb := HL_le hn.2 hS w7
  have pq := hrt_far hn.2 f4
  have nb := q_heartNumber hW H2 hi (m := m) (by rw [hxy_ne _ _ _ (by omega)]; exact w6) (by omega) (fun k hk => by
    rw [hxy_ne _ _ _ (by omega), hxy_ne _ _ _ (by omega)]
    have := hrt_far hn.2 (w7.1 k hk)
    simp only [] at this
    unfold j32; omega) (by rw [hxy_x, hxy_y]; unfold j32; omega)
  rw [hxy_x, hxy_y, hxy_ne _ _ _ (by omega), hxy_ne _ _ _ (by omega), rk_eq hn.2 hS w7 w8 f4 f5] at nb
  refine ⟨h2, hxy Sa p q, ?_, H2, f3.trans w3, KF_trans w4 KF_hxy, by rw [hxy_ne _ _ _ (by omega)]; exact w5, m, ⟨by rw [hxy_ne _ _ _ (by omega)]; exact w6, by rw [hxy_ne _ _ _ (by omega), hxy_ne _ _ _ (by omega)]; exact w7⟩, by rw [hxy_ne _ _ _ (by omega), hxy_ne _ _ _ (by omega)]; exact w8⟩
  simp (disch := omega) only [↓reduceIte, S0, S1, J_lt, J_le, J_eq, J_ldI, J_ldI3, J_ldB, J_ldL, J_ldR, J_stI, J_stB, J_stL, J_dv, j_gne, C0, CM, CP, CR, CJ, CS, CL, and_self, and_true, true_and, and_false, false_and, or_true, true_or, or_false, false_or, not_true_eq_false, not_false_eq_true, Option.map_some, E_Mod_rankOf hW, H.get, H1.get, H2.get, w1, f1, nb]
end QIS
