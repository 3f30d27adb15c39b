/-! a new room -/
def scr0 (S : Nat → Nat → Int) (j : Nat) : Prop := S (35 + 3 * j) 3 = 16 ∧ SCR 4 0 0 (S (35 + 3 * j) 4) (S (35 + 3 * j) 5) (S (36 + 3 * j)) (S (37 + 3 * j))
theorem cell_so (N : Nat) (F : Nat → Int) (G : Nat → Int64) {i : Nat} (hi : i < 8) : ∃ fs, cell N (35 + 3 * i) F G = jO 4 fs := by
  match i, hi with
  | 0, _ => exact ⟨_, rfl⟩
  | 1, _ => exact ⟨_, rfl⟩
  | 2, _ => exact ⟨_, rfl⟩
  | 3, _ => exact ⟨_, rfl⟩
  | 4, _ => exact ⟨_, rfl⟩
  | 5, _ => exact ⟨_, rfl⟩
  | 6, _ => exact ⟨_, rfl⟩
  | 7, _ => exact ⟨_, rfl⟩
section ICS
variable {V : Nat → Value} {W : xWt} {N : Nat}
theorem i_jbL (hW : xFix V W) {fs : List Value} (hf : xnth fs 2 = some (.ref (N + 7))) : ∀ (r i : Nat) (h : xH), i + r = 4 → h.2.1 = N + (8 + 4 * i) → h.1 N = some (jO 0 fs) → h.1 (N + 7) = some (jR 6 4 (fun j => if j < i then some (N + (8 + 4 * j)) else none)) → (∀ k, 8 ≤ k → k < 8 + 4 * i → h.1 (N + k) = some (cell N k (zS k) (zT k))) →
    ∃ h' : xH, W m_Room_init (35, [some (.ref N), some (.int (Int32.ofInt ((i : Int)))), none], []) h = W m_Room_init (59, [some (.ref N), some (.int (Int32.ofInt 4)), none], []) h' ∧ h'.2.1 = N + 24 ∧ h'.2.2 = h.2.2 + 6661 * r ∧ h'.1 (N + 7) = some (jR 6 4 (fun j => if j < 4 then some (N + (8 + 4 * j)) else none)) ∧ (∀ k, 8 ≤ k → k < 24 → h'.1 (N + k) = some (cell N k (zS k) (zT k))) ∧ ∀ o, o < N + 7 → h'.1 o = h.1 o := by
  intro r
  induction r with
  | zero =>
    intro i h hi hs o1 o2 o3
    have : i = 4 := by omega
    subst this
    refine ⟨h, ?_, hs, by omega, o2, o3, fun _ _ => rfl⟩
    rw [L_Room_init_35 hW, show ((4 : Nat) : Int) = 4 from rfl]
    simp (disch := omega) only [↓reduceIte, S0, S1, J_lt, J_le, J_eq, J_ldI, J_ldI3, J_ldB, J_ldL, J_ldR, J_stI, J_stB, J_stL, J_dv, j_gne, C0, CM, CP, CR, CJ, CS, CL, and_self, and_true, true_and, and_false, false_and, or_true, true_or, or_false, false_or, not_true_eq_false, not_false_eq_true, Option.map_some, J_ltT, J_ltF, J_leT, J_leF, J_eqT, J_eqF, J_ntT, J_ntF]
  | succ r ih =>
    intro i h hi hs o1 o2 o3
    obtain ⟨h1, a1, s1, t1, n1, g1⟩ := b_new hs (xO' 1 (xF0 1)) 5
    obtain ⟨h2, b1, b2, b3, b4, b5, b6, b7, b8⟩ := i_Job hW (N := N) (p := i) (h := h1) (by omega) n1
    have p2 := ((b8 (N + 7) (by omega) (by omega)).trans (g1 (N + 7) (by omega))).trans o2
    obtain ⟨h3, a3, s3, n3, g3⟩ := b_sR (h := h2) (o := N + 7) (o' := N + (8 + 4 * i)) (t := 6) (c := 1) (n := 4) (z := (i : Int)) p2 b4 rfl (by omega)
    rw [Int.toNat_natCast, va_up_if (n := 4) (by omega)] at n3
    obtain ⟨h', w1, w2, w3, w4, w5, w6⟩ := ih (i + 1) h3 (by omega) (by rw [s3]; omega) (by rw [g3 _ (by omega), b8 _ (by omega) (by omega), g1 _ (by omega)]; exact o1) n3 (fun k k1 k2 => by
      rw [g3 _ (by omega)]
      by_cases c : k < 8 + 4 * i
      · rw [b8 _ (by omega) (by omega), g1 _ (by omega)]; exact o3 k k1 c
      · have : k = 8 + 4 * i ∨ k = 9 + 4 * i ∨ k = 10 + 4 * i ∨ k = 11 + 4 * i := by omega
        have i4 : i < 4 := by omega
        rcases this with rfl | rfl | rfl | rfl
        · rw [b4]
          match i, i4 with
          | 0, _ => rfl
          | 1, _ => rfl
          | 2, _ => rfl
          | 3, _ => rfl
        · rw [b5]
          match i, i4 with
          | 0, _ => rfl
          | 1, _ => rfl
          | 2, _ => rfl
          | 3, _ => rfl
        · rw [b6]
          match i, i4 with
          | 0, _ => rfl
          | 1, _ => rfl
          | 2, _ => rfl
          | 3, _ => rfl
        · rw [b7]
          match i, i4 with
          | 0, _ => rfl
          | 1, _ => rfl
          | 2, _ => rfl
          | 3, _ => rfl)
    refine ⟨h', ?_, w2, by rw [w3, s3, b3, t1]; omega, w4, w5, fun o ho => by rw [w6 o ho, g3 _ (by omega), b8 _ (by omega) (by omega), g1 _ (by omega)]⟩
    rw [← w1, L_Room_init_35 hW]
    simp (disch := omega) only [↓reduceIte, S0, S1, J_lt, J_le, J_eq, J_ldI, J_ldI3, J_ldB, J_ldL, J_ldR, J_stI, J_stB, J_stL, J_dv, j_gne, C0, CM, CP, CR, CJ, CS, CL, and_self, and_true, true_and, and_false, false_and, or_true, true_or, or_false, false_or, not_true_eq_false, not_false_eq_true, Option.map_some, J_ltT, J_ltF, J_leT, J_leF, J_eqT, J_eqF, J_ntT, J_ntF, E_Room_init hW, o1, hf, hs, a1, b1, a3]
    rfl
theorem i_scL (hW : xFix V W) {fs : List Value} (hf : xnth fs 4 = some (.ref (N + 30))) : ∀ (r i : Nat) (S : Nat → Nat → Int) (h : xH), i + r = 8 → h.2.1 = N + (35 + 3 * i) → h.1 N = some (jO 0 fs) → h.1 (N + 30) = some (jR 9 8 (fun j => if j < i then some (N + (35 + 3 * j)) else none)) → HB 31 (35 + 3 * i) N h S zT → PLC S → (∀ j, j < i → scr0 S j) →
    ∃ (h' : xH) (S' : Nat → Nat → Int), W m_Room_init (89, [some (.ref N), some (.ref (N + 31)), some (.int (Int32.ofInt ((i : Int))))], []) h = W m_Room_init (115, [some (.ref N), some (.ref (N + 31)), some (.int (Int32.ofInt 8))], []) h' ∧ h'.2.1 = N + 59 ∧ h'.2.2 = h.2.2 + 806 * r ∧ h'.1 (N + 30) = some (jR 9 8 (fun j => if j < 8 then some (N + (35 + 3 * j)) else none)) ∧ HB 31 59 N h' S' zT ∧ PLC S' ∧ (∀ j, j < 8 → scr0 S' j) ∧ ∀ o, o < N + 30 → h'.1 o = h.1 o := by
  intro r
  induction r with
  | zero =>
    intro i S h hi hs o1 o2 H P C
    have : i = 8 := by omega
    subst this
    refine ⟨h, S, ?_, hs, by omega, o2, H, P, C, fun _ _ => rfl⟩
    rw [L_Room_init_89 hW, show ((8 : Nat) : Int) = 8 from rfl]
    simp (disch := omega) only [↓reduceIte, S0, S1, J_lt, J_le, J_eq, J_ldI, J_ldI3, J_ldB, J_ldL, J_ldR, J_stI, J_stB, J_stL, J_dv, j_gne, C0, CM, CP, CR, CJ, CS, CL, and_self, and_true, true_and, and_false, false_and, or_true, true_or, or_false, false_or, not_true_eq_false, not_false_eq_true, Option.map_some, J_ltT, J_ltF, J_leT, J_leF, J_eqT, J_eqF, J_ntT, J_ntF]
  | succ r ih =>
    intro i S h hi hs o1 o2 H P C
    have i8 : i < 8 := by omega
    obtain ⟨h1, a1, s1, t1, n1, g1⟩ := b_new hs (xO' 4 (xF0 4)) 6
    have H1 : HB 31 (35 + 3 * i) N h1 S zT := fun k k1 k2 => by rw [g1 _ (by omega)]; exact H k k1 k2
    obtain ⟨h2, Sa, b1, b2, b3, b4, b5, b6, b7⟩ := i_Scr hW i8 H1 P (by omega) n1
    obtain ⟨fo, fe⟩ := cell_so N (Sa (35 + 3 * i)) (zT (35 + 3 * i)) i8
    have ob := b4.get (k := 35 + 3 * i) (by omega)
    rw [fe] at ob
    have p2 := ((b7 (N + 30) (by omega)).trans (g1 (N + 30) (by omega))).trans o2
    obtain ⟨h3, a3, s3, n3, g3⟩ := b_sR (h := h2) (o := N + 30) (o' := N + (35 + 3 * i)) (t := 9) (c := 4) (n := 8) (z := (i : Int)) p2 ob rfl (by omega)
    rw [Int.toNat_natCast, va_up_if (n := 8) (by omega)] at n3
    obtain ⟨h', S', w1, w2, w3, w4, w5, w6, w7, w8⟩ := ih (i + 1) Sa h3 (by omega) (by rw [s3]; omega) (by rw [g3 _ (by omega), b7 _ (by omega), g1 _ (by omega)]; exact o1) n3 (fun k k1 k2 => by rw [g3 _ (by omega)]; exact b4 k k1 (by omega)) (by
      obtain ⟨c, c1, c2, c3⟩ := P
      exact ⟨c, by rw [b5 31 (by omega) (by omega) (by omega)]; exact c1, c2, by rw [b5 32 (by omega) (by omega) (by omega)]; exact c3⟩) (fun j hj => by
      by_cases e : j = i
      · subst e; exact b6
      · unfold scr0
        rw [b5 (35 + 3 * j) (by omega) (by omega) (by omega), b5 (36 + 3 * j) (by omega) (by omega) (by omega), b5 (37 + 3 * j) (by omega) (by omega) (by omega)]
        exact C j (by omega))
    refine ⟨h', S', ?_, w2, by rw [w3, s3, b3, t1]; omega, w4, w5, w6, w7, fun o ho => by rw [w8 o ho, g3 _ (by omega), b7 _ (by omega), g1 _ (by omega)]⟩
    rw [← w1, L_Room_init_89 hW]
    simp (disch := omega) only [↓reduceIte, S0, S1, J_lt, J_le, J_eq, J_ldI, J_ldI3, J_ldB, J_ldL, J_ldR, J_stI, J_stB, J_stL, J_dv, j_gne, C0, CM, CP, CR, CJ, CS, CL, and_self, and_true, true_and, and_false, false_and, or_true, true_or, or_false, false_or, not_true_eq_false, not_false_eq_true, Option.map_some, J_ltT, J_ltF, J_leT, J_leF, J_eqT, J_eqF, J_ntT, J_ntF, E_Room_init hW, o1, hf, hs, a1, b1, a3]
    rfl
def S0r (S : Nat → Nat → Int) : Nat → Nat → Int := fun k => if k = 0 then jup (fun _ => 0) 7 1020 else if 31 ≤ k ∧ k < 59 then S k else fun _ => 0
set_option maxHeartbeats 8000000 in
theorem i_Room (hW : xFix V W) {h : xH} (hs : h.2.1 = N + 1) (o0 : h.1 N = some (jO 0 (xF0 0))) :
    ∃ (h' : xH) (S : Nat → Nat → Int), W m_Room_init (0, [some (.ref N), none, none], []) h = some (.inl none, h') ∧ h'.2.1 = N + 78 ∧ h'.2.2 = h.2.2 + 56134 ∧ (∀ k, k < 78 → h'.1 (N + k) = some (cell N k (S0r S k) (zT k))) ∧ PLC S ∧ (∀ j, j < 8 → scr0 S j) ∧ ∀ o, o < N → h'.1 o = h.1 o := by
  obtain ⟨h1, a1, s1, t1, n1, g1⟩ := b_mk (h := h) (a := N + 1) hs 0 (z := 512) (n := 512) rfl (by omega)
  have o1 := (g1 N (by omega)).trans o0
  obtain ⟨h2, a2, s2, o2, g2⟩ := b_pt (h := h1) o1 (b := 0) (kd := 2) (w := .ref (N + 1)) rfl rfl
  have z2 := (congrArg Prod.fst s2).trans s1
  obtain ⟨h3, a3, s3, t3, n3, m3, g3⟩ := b_grid (h := h2) (a := N + 2) (by omega) 4 0 (z := 4) (y := 3072) (n := 4) (k := 3072) rfl rfl (by omega) (by omega)
  have o3 := (g3 N (by omega)).trans o2
  obtain ⟨h4, a4, s4, o4, g4⟩ := b_pt (h := h3) o3 (b := 1) (kd := 2) (w := .ref (N + 2)) rfl rfl
  have z4 := (congrArg Prod.fst s4).trans s3
  obtain ⟨h5, a5, s5, t5, n5, g5⟩ := b_mk (h := h4) (a := N + 7) (by omega) 6 (z := 4) (n := 4) rfl (by omega)
  have o5 := (g5 N (by omega)).trans o4
  obtain ⟨h6, a6, s6, o6, g6⟩ := b_pt (h := h5) o5 (b := 2) (kd := 2) (w := .ref (N + 7)) rfl rfl
  have z6 := (congrArg Prod.fst s6).trans s5
  obtain ⟨h7, a7, s7, t7, n7, m7, g7⟩ := i_jbL hW (N := N) (fs := xupd (xupd (xupd (xF0 0) 0 (.ref (N + 1))) 1 (.ref (N + 2))) 2 (.ref (N + 7))) rfl 4 0 h6 (by omega) (by omega) o6 (by rw [g6 _ (by omega), n5]; rfl) (fun k k1 k2 => by omega)
  have o7 := (g7 N (by omega)).trans o6
  obtain ⟨h8, a8, s8, t8, n8, g8⟩ := b_new s7 (xO' 2 (xF0 2)) 5
  obtain ⟨h9, a9, s9, t9, n9, q1, q2, q3, q4, q5, g9⟩ := i_Spr hW (N := N) (h := h8) (by omega) n8
  have o9 := ((g9 N (by omega) (by omega)).trans (g8 N (by omega))).trans o7
  obtain ⟨h10, a10, s10, o10, g10⟩ := b_pt (h := h9) o9 (b := 3) (kd := 2) (w := .ref (N + 24)) rfl rfl
  have z10 := (congrArg Prod.fst s10).trans s9
  obtain ⟨h11, a11, s11, t11, n11, g11⟩ := b_mk (h := h10) (a := N + 30) (by omega) 9 (z := 8) (n := 8) rfl (by omega)
  have o11 := (g11 N (by omega)).trans o10
  obtain ⟨h12, a12, s12, o12, g12⟩ := b_pt (h := h11) o11 (b := 4) (kd := 2) (w := .ref (N + 30)) rfl rfl
  have z12 := (congrArg Prod.fst s12).trans s11
  obtain ⟨h13, a13, s13, t13, n13, g13⟩ := b_new (h := h12) (a := N + 31) (by omega) (xO' 3 (xF0 3)) 4
  obtain ⟨h14, Sa, a14, s14, t14, H14, P14, g14⟩ := i_Pla hW (N := N) (T := zT) (h := h13) (by omega) n13
  have o14 := ((g14 N (by omega)).trans (g13 N (by omega))).trans o12
  obtain ⟨h15, Sb, a15, s15, t15, n15, H15, P15, C15, g15⟩ := i_scL hW (N := N) (fs := xupd (xupd (xupd (xupd (xupd (xF0 0) 0 (.ref (N + 1))) 1 (.ref (N + 2))) 2 (.ref (N + 7))) 3 (.ref (N + 24))) 4 (.ref (N + 30))) rfl 8 0 Sa h14 (by omega) (by omega) o14 (by rw [g14 _ (by omega), g13 _ (by omega), g12 _ (by omega), n11]; rfl) H14 P14 (fun j hj => by omega)
  have o15 := (g15 N (by omega)).trans o14
  obtain ⟨h16, a16, s16, t16, n16, g16⟩ := b_new (h := h15) (a := N + 59) s15 (xO' 5 (xF0 5)) 5
  obtain ⟨h17, a17, s17, t17, n17, g17⟩ := i_She hW (N := N) (T := zT) (h := h16) (by omega) n16
  have o17 := ((g17 N (by omega)).trans (g16 N (by omega))).trans o15
  obtain ⟨h18, a18, s18, o18, g18⟩ := b_pt (h := h17) o17 (b := 5) (kd := 2) (w := .ref (N + 59)) rfl rfl
  obtain ⟨h19, a19, s19, o19, g19⟩ := b_pt (h := h18) o18 (b := 6) (kd := 0) (w := .int (Int32.ofInt 0)) rfl rfl
  obtain ⟨h20, a20, s20, o20, g20⟩ := b_pt (h := h19) o19 (b := 7) (kd := 0) (w := .int (Int32.ofInt 1020)) rfl rfl
  have low : ∀ k, 1 ≤ k → k < 59 → h20.1 (N + k) = h15.1 (N + k) := fun k k1 k2 => by rw [g20 _ (by omega), g19 _ (by omega), g18 _ (by omega), g17 _ (by omega), g16 _ (by omega)]
  have low2 : ∀ k, 1 ≤ k → k < 30 → h20.1 (N + k) = h9.1 (N + k) := fun k k1 k2 => by rw [low k k1 (by omega), g15 _ (by omega), g14 _ (by omega), g13 _ (by omega), g12 _ (by omega), g11 _ (by omega), g10 _ (by omega)]
  have low3 : ∀ k, 1 ≤ k → k < 24 → h20.1 (N + k) = h7.1 (N + k) := fun k k1 k2 => by rw [low2 k k1 (by omega), g9 _ (by omega) (by omega), g8 _ (by omega)]
  have low4 : ∀ k, 1 ≤ k → k < 7 → h20.1 (N + k) = h4.1 (N + k) := fun k k1 k2 => by rw [low3 k k1 (by omega), g7 _ (by omega), g6 _ (by omega), g5 _ (by omega)]
  refine ⟨h20, Sb, ?_, by rw [s20, s19, s18]; exact s17, ?_, fun k hk => ?_, P15, C15, fun o ho => ?_⟩
  · rw [show ((0 : Nat) : Int) = 0 from rfl] at a7 a15
    simp only [E_Room_init hW, S0, a1, a2, a3, a4, a5, a6, a7]
    simp only [E_Room_init hW, S0, s7, a8, a9, a10, a11, a12, z12, a13, a14, a15]
    simp only [E_Room_init hW, S0, s15, a16, a17, a18, a19, a20]
  · have w20 : h20.2.2 = h17.2.2 := by rw [s20, s19, s18]
    have w12 := congrArg Prod.snd s12
    have w10 := congrArg Prod.snd s10
    have w6 := congrArg Prod.snd s6
    have w4 := congrArg Prod.snd s4
    have w2 := congrArg Prod.snd s2
    clear low low2 low3 low4 a1 a2 a3 a4 a5 a6 a7 a8 a9 a10 a11 a12 a13 a14 a15 a16 a17 a18 a19 a20 s1 s3 s5 s7 s8 s9 s11 s13 s14 s15 s16 s17
    omega
  · by_cases k0 : k = 0
    · subst k0; rw [show N + 0 = N from rfl, o20]; rfl
    · by_cases k1 : 31 ≤ k ∧ k < 59
      · rw [low k (by omega) k1.2]
        have := H15 k k1.1 k1.2
        rw [this]
        unfold S0r
        rw [if_neg k0, if_pos k1]
      · have e0 : S0r Sb k = fun _ => 0 := by unfold S0r; rw [if_neg k0, if_neg k1]
        rw [e0]
        by_cases k2 : 59 ≤ k
        · rw [g20 _ (by omega), g19 _ (by omega), g18 _ (by omega)]; exact n17 k k2 hk
        · by_cases k3 : k = 30
          · subst k3; rw [low 30 (by omega) (by omega), n15]; rfl
          · by_cases k4 : 24 ≤ k
            · rw [low2 k (by omega) (by omega)]
              have : k = 24 ∨ k = 25 ∨ k = 26 ∨ k = 27 ∨ k = 28 ∨ k = 29 := by omega
              rcases this with rfl | rfl | rfl | rfl | rfl | rfl
              · rw [n9]; rfl
              · rw [q1]; rfl
              · rw [q2]; rfl
              · rw [q3]; rfl
              · rw [q4]; rfl
              · rw [q5]; rfl
            · by_cases k5 : 8 ≤ k
              · rw [low3 k (by omega) (by omega)]; exact m7 k k5 (by omega)
              · by_cases k6 : k = 7
                · subst k6; rw [low3 7 (by omega) (by omega), n7]; rfl
                · rw [low4 k (by omega) (by omega), g4 _ (by omega)]
                  by_cases k7 : k = 1
                  · subst k7; rw [g3 _ (by omega), g2 _ (by omega), n1]; rfl
                  · by_cases k8 : k = 2
                    · subst k8; rw [n3]
                      show some (jR 4 4 _) = some (jR 4 4 _)
                      congr 2
                      funext j
                      rw [show N + 2 + 1 + j = N + (3 + j) by omega]
                    · rw [m3 _ (by omega) (by omega)]
                      have : k = 3 ∨ k = 4 ∨ k = 5 ∨ k = 6 := by omega
                      rcases this with rfl | rfl | rfl | rfl <;> rfl
  · have lt : ∀ k, o < N + k := fun k => Nat.lt_of_lt_of_le ho (Nat.le_add_right N k)
    have ne : ∀ k, o ≠ N + k := fun k => Nat.ne_of_lt (lt k)
    have n0 : o ≠ N := Nat.ne_of_lt ho
    rw [g20 _ n0, g19 _ n0, g18 _ n0, g17 _ (lt 59), g16 _ (ne 59), g15 _ (lt 30), g14 _ (lt 31), g13 _ (ne 31), g12 _ n0, g11 _ (ne 30), g10 _ n0, g9 _ (lt 25) (ne 24), g8 _ (ne 24), g7 _ (lt 7), g6 _ n0, g5 _ (ne 7), g4 _ n0, g3 _ (lt 2), g2 _ n0, g1 _ (ne 1)]
end ICS
