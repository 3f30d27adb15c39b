/-! new places, a new screen, new sheets -/
def zS : Nat → Nat → Int := fun _ _ => 0
def zT : Nat → Nat → Int64 := fun _ _ => 0
def cpF (F F' : Nat → Int) (c : Nat) : Nat → Int := fun k => if k < c then F k else F' k
theorem j_cp {h : xH} {o' n n' c : Nat} {F F' : Nat → Int} (h1 : c ≤ n) (h2 : c ≤ n') (h3 : n ≤ 2147483647) : xcp (some (jA 0 n F)) (some (jA 0 n' F')) h (Int32.ofInt 0) o' (Int32.ofInt 0) (Int32.ofInt (c : Int)) = some (xset h o' (jA 0 n' (cpF F F' c))) := by
  have e1 : (Int32.ofInt (c : Int)).toNatClampNeg = c := by rw [j_clamp (by omega) (by omega)]; omega
  have e0 : (Int32.ofInt (0 : Int)).toNatClampNeg = 0 := by rw [j_clamp (by omega) (by omega)]; rfl
  show (if Int32.ofInt 0 < 0 ∨ Int32.ofInt 0 < 0 ∨ Int32.ofInt (c : Int) < 0 ∨ n < (Int32.ofInt 0).toNatClampNeg + (Int32.ofInt (c : Int)).toNatClampNeg ∨ n' < (Int32.ofInt 0).toNatClampNeg + (Int32.ofInt (c : Int)).toNatClampNeg then none else some (xset h o' (xA 0 n' (xint (va_cpy (fun k => Int32.ofInt (F k)) (fun k => Int32.ofInt (F' k)) (Int32.ofInt 0).toNatClampNeg (Int32.ofInt 0).toNatClampNeg (Int32.ofInt (c : Int)).toNatClampNeg))))) = _
  rw [e0, e1, if_neg ?_]
  · have : va_cpy (fun k => Int32.ofInt (F k)) (fun k => Int32.ofInt (F' k)) 0 0 c = fun k => Int32.ofInt (cpF F F' c k) := by
      funext k
      unfold va_cpy cpF
      by_cases q : k < c
      · rw [if_pos (by omega), if_pos q, show 0 + (k - 0) = k by omega]
      · rw [if_neg (by omega), if_neg q]
    rw [this]
    rfl
  · rw [show (0 : Int32) = Int32.ofInt 0 from rfl, j_lt (by omega) (by omega) (by omega) (by omega), j_lt (by omega) (by omega) (by omega) (by omega)]
    omega
def PI (F : Nat → Int) (c q : Nat) : Prop := c ≤ q ∧ (∀ i, i < c → (0 ≤ F i ∧ F i < q) ∧ dq (F i) ≤ 400) ∧ (∀ i j, i < j → j < c → F i < F j) ∧ ∀ z : Int, 0 ≤ z → z < q → dq z ≤ 400 → ∃ i, i < c ∧ F i = z
section IBS
variable {V : Nat → Value} {W : xWt} {N : Nat} {T : Nat → Nat → Int64}
theorem i_plL (hW : xFix V W) {S : Nat → Nat → Int} : ∀ (r q c : Nat) (F : Nat → Int) (h : xH), HB 31 35 N h (sup S 32 F) T → q + r = 1681 → PI F c q →
    ∃ (h' : xH) (c' : Nat) (F' : Nat → Int), W m_Pla_init (35, [some (.ref (N + 31)), some (.int (Int32.ofInt ((c : Int)))), some (.int (Int32.ofInt ((q : Int))))], []) h = W m_Pla_init (68, [some (.ref (N + 31)), some (.int (Int32.ofInt ((c' : Int)))), some (.int (Int32.ofInt 1681))], []) h' ∧ HB 31 35 N h' (sup S 32 F') T ∧ HF 31 35 N h h' ∧ PI F' c' 1681 := by
  intro r
  induction r with
  | zero =>
    intro q c F h H hq P
    have : q = 1681 := by omega
    subst this
    refine ⟨h, c, F, ?_, H, HF_refl, P⟩
    rw [L_Pla_init_35 hW, show ((1681 : Nat) : Int) = 1681 from rfl]
    simp (disch := omega) only [↓reduceIte, S0, S1, J_lt, J_le, J_eq, J_ldI, J_ldI3, J_ldB, J_ldL, J_ldR, J_stI, J_stB, J_stL, J_dv, j_gne, C0, CM, CP, CR, CJ, CS, CL, and_self, and_true, true_and, and_false, false_and, or_true, true_or, or_false, false_or, not_true_eq_false, not_false_eq_true, Option.map_some, J_ltT, J_ltF, J_leT, J_leF, J_eqT, J_eqF, J_ntT, J_ntF]
  | succ r ih =>
    intro q c F h H hq P
    obtain ⟨p1, p2, p3, p4⟩ := P
    have hb : 0 ≤ (q : Int) ∧ (q : Int) < 1681 := by omega
    have d8 := dq_800 hb
    have di := fun h => p_distanceOf (h := h) hW hb
    by_cases g : 400 < dq q
    · obtain ⟨h', c', F', w1, w2, w3, w4⟩ := ih (q + 1) c F h H (by omega) ⟨by omega, fun i hi => ⟨by have := (p2 i hi).1; omega, (p2 i hi).2⟩, p3, fun z z0 z1 zd => by
        rcases Int.lt_or_le z q with e | e
        · exact p4 z z0 e zd
        · rw [show z = q by omega] at zd; omega⟩
      refine ⟨h', c', F', ?_, w2, w3, w4⟩
      rw [← w1, L_Pla_init_35 hW]
      simp (disch := omega) only [↓reduceIte, S0, S1, J_lt, J_le, J_eq, J_ldI, J_ldI3, J_ldB, J_ldL, J_ldR, J_stI, J_stB, J_stL, J_dv, j_gne, C0, CM, CP, CR, CJ, CS, CL, and_self, and_true, true_and, and_false, false_and, or_true, true_or, or_false, false_or, not_true_eq_false, not_false_eq_true, Option.map_some, J_ltT, J_ltF, J_leT, J_leF, J_eqT, J_eqF, J_ntT, J_ntF, E_Pla_init hW, di]
      rfl
    · have H1 := H.put (k := 32) (jup F c q) rfl
      rw [sup_sup] at H1
      obtain ⟨h', c', F', w1, w2, w3, w4⟩ := ih (q + 1) (c + 1) (jup F c q) _ H1 (by omega) ⟨by omega, fun i hi => by
          by_cases e : i = c
          · subst e; rw [jup_same]; omega
          · rw [jup_ne _ _ e]; have := p2 i (by omega); omega, fun i j l1 l2 => by
          rw [jup_ne _ _ (show i ≠ c by omega)]
          by_cases e : j = c
          · subst e; rw [jup_same]; exact (p2 i l1).1.2
          · rw [jup_ne _ _ e]; exact p3 i j l1 (by omega), fun z z0 z1 zd => by
          rcases Int.lt_or_le z q with e | e
          · obtain ⟨i, i1, i2⟩ := p4 z z0 e zd
            exact ⟨i, by omega, by rw [jup_ne _ _ (by omega)]; exact i2⟩
          · exact ⟨c, by omega, by rw [jup_same]; omega⟩⟩
      refine ⟨h', c', F', ?_, w2, HF_trans (HF_set (by omega)) w3, w4⟩
      rw [← w1, L_Pla_init_35 hW]
      simp (disch := omega) only [↓reduceIte, S0, S1, J_lt, J_le, J_eq, J_ldI, J_ldI3, J_ldB, J_ldL, J_ldR, J_stI, J_stB, J_stL, J_dv, j_gne, C0, CM, CP, CR, CJ, CS, CL, and_self, and_true, true_and, and_false, false_and, or_true, true_or, or_false, false_or, not_true_eq_false, not_false_eq_true, Option.map_some, J_ltT, J_ltF, J_leT, J_leF, J_eqT, J_eqF, J_ntT, J_ntF, E_Pla_init hW, di, H.get, sup_same, Int.toNat_natCast]
      rfl
theorem i_Pla (hW : xFix V W) {h : xH} (hs : h.2.1 = N + 32) (o0 : h.1 (N + 31) = some (jO 3 (xF0 3))) :
    ∃ (h' : xH) (S : Nat → Nat → Int), W m_Pla_init (0, [some (.ref (N + 31)), none, none], []) h = some (.inl none, h') ∧ h'.2.1 = N + 35 ∧ h'.2.2 = h.2.2 + 1681 + 1681 + 402 ∧ HB 31 35 N h' S T ∧ PLC S ∧ ∀ o, o < N + 31 → h'.1 o = h.1 o := by
  obtain ⟨h1, a1, s1, t1, n1, g1⟩ := b_mk (h := h) (a := N + 32) hs 0 (z := 1681) (n := 1681) rfl (by omega)
  have o1 := (g1 (N + 31) (by omega)).trans o0
  obtain ⟨h2, a2, s2, o2, g2⟩ := b_pt (h := h1) o1 (b := 0) (kd := 2) (w := .ref (N + 32)) rfl rfl
  have z2 := (congrArg Prod.fst s2).trans s1
  obtain ⟨h3, a3, s3, t3, n3, g3⟩ := b_mk (h := h2) (a := N + 33) (by omega) 0 (z := 1681) (n := 1681) rfl (by omega)
  have o3 := (g3 (N + 31) (by omega)).trans o2
  obtain ⟨h4, a4, s4, o4, g4⟩ := b_pt (h := h3) o3 (b := 1) (kd := 2) (w := .ref (N + 33)) rfl rfl
  have z4 := (congrArg Prod.fst s4).trans s3
  obtain ⟨h5, a5, s5, t5, n5, g5⟩ := b_mk (h := h4) (a := N + 34) (by omega) 0 (z := 402) (n := 402) rfl (by omega)
  have o5 := (g5 (N + 31) (by omega)).trans o4
  obtain ⟨h6, a6, s6, o6, g6⟩ := b_pt (h := h5) o5 (b := 2) (kd := 2) (w := .ref (N + 34)) rfl rfl
  have z6 := (congrArg Prod.fst s6).trans s5
  have H : HB 31 35 N h6 (sup zS 32 (fun _ => 0)) T := by
    intro k k1 k2
    have : k = 31 ∨ k = 32 ∨ k = 33 ∨ k = 34 := by omega
    rcases this with rfl | rfl | rfl | rfl
    · rw [o6]; rfl
    · rw [g6 _ (by omega), g5 _ (by omega), g4 _ (by omega), g3 _ (by omega), g2 _ (by omega), n1]; rfl
    · rw [g6 _ (by omega), g5 _ (by omega), g4 _ (by omega), n3]; rfl
    · rw [g6 _ (by omega), n5]; rfl
  obtain ⟨h7, c, F, w1, H7, f7, P1, P2, P3, P4⟩ := i_plL hW 1681 0 0 _ h6 H (by omega) ⟨by omega, fun i hi => by omega, fun i j _ hj => by omega, fun z z0 z1 _ => by omega⟩
  have H8 := H7.put (k := 31) (jup (zS 31) 3 c) rfl
  have e32 : sup (sup zS 32 F) 31 (jup (zS 31) 3 c) 32 = F := by rw [sup_ne _ _ (by omega), sup_same]
  have e31 : sup (sup zS 32 F) 31 (jup (zS 31) 3 c) 31 3 = c := by rw [sup_same, jup_same]
  have fe : ∀ k, k < c → frm 1 0 0 (px (F k)) (py (F k)) = dq (F k) := fun k hk => by unfold frm dq; rw [if_pos rfl]
  obtain ⟨B, Q, h9, x1, H9, f9, x4⟩ := p_sortByForm hW (M := 35) (by omega) (a := 1) (b := 0) (s := 0) (w := c) (f := fun k => dq (F k)) H8 (by omega) (by omega) (by omega) P1 (by rw [e32]; exact fun i hi => (P2 i hi).1) (by rw [e32]; exact fun k hk => ⟨fe k hk, dq_nn _, (P2 k hk).2⟩)
  rw [e32] at x4
  have H10 := H9.put (k := 32) (cpF B F c) rfl
  have bd := BD_sort (f := fun k => dq (F k)) P2 P3 (fun q q0 q1 qd => P4 q q0 q1 qd) (fun k hk => rfl) x4
  refine ⟨_, _, ?_, ?_, ?_, H10, ⟨c, ?_, P1, ?_⟩, fun o ho => ?_⟩
  · rw [show ((0 : Nat) : Int) = 0 from rfl] at w1
    simp only [E_Pla_init hW, S0, a1, a2, a3, a4, a5, a6]
    rw [w1]
    have q31 : qS (sup (sup zS 32 F) 31 (jup (zS 31) 3 c)) B Q 31 3 = c := by rw [qS_ne _ _ _ (by omega)]; exact e31
    have q32 : qS (sup (sup zS 32 F) 31 (jup (zS 31) 3 c)) B Q 32 = F := by rw [qS_ne _ _ _ (by omega)]; exact e32
    have n31 : sup zS 32 F 31 = zS 31 := sup_ne _ _ (by omega)
    simp (disch := omega) only [↓reduceIte, S0, S1, J_lt, J_le, J_eq, J_ldI, J_ldI3, J_ldB, J_ldL, J_ldR, J_stI, J_stB, J_stL, J_dv, j_gne, C0, CM, CP, CR, CJ, CS, CL, and_self, and_true, true_and, and_false, false_and, or_true, true_or, or_false, false_or, not_true_eq_false, not_false_eq_true, Option.map_some, E_Pla_init hW, H7.get, n31, jup_same, x1]
    simp (disch := omega) only [↓reduceIte, S0, S1, J_lt, J_le, J_eq, J_ldI, J_ldI3, J_ldB, J_ldL, J_ldR, J_stI, J_stB, J_stL, J_dv, j_gne, C0, CM, CP, CR, CJ, CS, CL, and_self, and_true, true_and, and_false, false_and, or_true, true_or, or_false, false_or, not_true_eq_false, not_false_eq_true, Option.map_some, E_Pla_init hW, H9.get, q31, q32, qS_33]
    rw [j_cp P1 P1 (by omega)]
    simp (disch := omega) only [↓reduceIte, S0, S1, J_lt, J_le, J_eq, J_ldI, J_ldI3, J_ldB, J_ldL, J_ldR, J_stI, J_stB, J_stL, J_dv, j_gne, C0, CM, CP, CR, CJ, CS, CL, and_self, and_true, true_and, and_false, false_and, or_true, true_or, or_false, false_or, not_true_eq_false, not_false_eq_true, Option.map_some, E_Pla_init hW]
  · show h9.2.1 = _
    rw [f9.1]
    show h7.2.1 = _
    rw [f7.1]
    omega
  · show h9.2.2 = _
    rw [f9.1]
    show h7.2.2 = _
    rw [f7.1, s6, t5, s4, t3, s2, t1]
  · rw [sup_ne _ _ (by omega), qS_ne _ _ _ (by omega)]; exact e31
  · rw [sup_same]
    refine ⟨fun i hi => ?_, fun i j l1 l2 => ?_, fun q q0 q1 qd => ?_⟩
    · unfold cpF; rw [if_pos hi]; exact bd.1 i hi
    · unfold cpF; rw [if_pos (by omega), if_pos l2]; exact bd.2.1 i j l1 l2
    · obtain ⟨i, i1, i2⟩ := bd.2.2 q q0 q1 qd
      exact ⟨i, i1, by unfold cpF; rw [if_pos i1]; exact i2⟩
  · rw [j_gne _ _ (by omega), f9.2 _ (by omega), j_gne _ _ (by omega), f7.2 _ (by omega), g6 _ (by omega), g5 _ (by omega), g4 _ (by omega), g3 _ (by omega), g2 _ (by omega), g1 _ (by omega)]
theorem i_Scr (hW : xFix V W) {i : Nat} (hi : i < 8) {S : Nat → Nat → Int} {h : xH} (H : HB 31 (35 + 3 * i) N h S T) (P : PLC S) (hs : h.2.1 = N + (36 + 3 * i)) (o0 : h.1 (N + (35 + 3 * i)) = some (jO 4 (xF0 4))) :
    ∃ (h' : xH) (S' : Nat → Nat → Int), W m_Scr_init (0, [some (.ref (N + (35 + 3 * i))), some (.ref (N + 31))], []) h = some (.inl none, h') ∧ h'.2.1 = N + (38 + 3 * i) ∧ h'.2.2 = h.2.2 + 400 + 400 ∧ HB 31 (38 + 3 * i) N h' S' T ∧ (∀ k, k < 35 + 3 * i → k ≠ 33 → k ≠ 34 → S' k = S k) ∧ (S' (35 + 3 * i) 3 = 16 ∧ SCR 4 0 0 (S' (35 + 3 * i) 4) (S' (35 + 3 * i) 5) (S' (36 + 3 * i)) (S' (37 + 3 * i))) ∧ ∀ o, o < N + 31 → h'.1 o = h.1 o := by
  obtain ⟨h1, a1, s1, o1, g1⟩ := b_pt (h := h) o0 (b := 0) (kd := 2) (w := .ref (N + 31)) rfl rfl
  have z1 := (congrArg Prod.fst s1).trans hs
  obtain ⟨h2, a2, s2, t2, n2, g2⟩ := b_mk (h := h1) (a := N + (36 + 3 * i)) z1 0 (z := 400) (n := 400) rfl (by omega)
  have o2 := (g2 (N + (35 + 3 * i)) (by omega)).trans o1
  obtain ⟨h3, a3, s3, o3, g3⟩ := b_pt (h := h2) o2 (b := 1) (kd := 2) (w := .ref (N + (36 + 3 * i))) rfl rfl
  have z3 := (congrArg Prod.fst s3).trans s2
  obtain ⟨h4, a4, s4, t4, n4, g4⟩ := b_mk (h := h3) (a := N + (37 + 3 * i)) (by omega) 0 (z := 400) (n := 400) rfl (by omega)
  have o4 := (g4 (N + (35 + 3 * i)) (by omega)).trans o3
  obtain ⟨h5, a5, s5, o5, g5⟩ := b_pt (h := h4) o4 (b := 2) (kd := 2) (w := .ref (N + (37 + 3 * i))) rfl rfl
  have z5 := (congrArg Prod.fst s5).trans s4
  have H5 : HB 31 (38 + 3 * i) N h5 (fun k => if k < 35 + 3 * i then S k else fun _ => 0) T := by
    intro k k1 k2
    by_cases c : k < 35 + 3 * i
    · simp only [if_pos c]
      rw [g5 _ (by omega), g4 _ (by omega), g3 _ (by omega), g2 _ (by omega), g1 _ (by omega)]
      exact H k k1 c
    · simp only [if_neg c]
      have : k = 35 + 3 * i ∨ k = 36 + 3 * i ∨ k = 37 + 3 * i := by omega
      rcases this with rfl | rfl | rfl
      · rw [o5]
        match i, hi with
        | 0, _ => rfl
        | 1, _ => rfl
        | 2, _ => rfl
        | 3, _ => rfl
        | 4, _ => rfl
        | 5, _ => rfl
        | 6, _ => rfl
        | 7, _ => rfl
      · rw [g5 _ (by omega), g4 _ (by omega), g3 _ (by omega), n2, (CS N _ _ hi).2.2.2.2.2.2.2.2.2.2.1]; rfl
      · rw [g5 _ (by omega), n4, (CS N _ _ hi).2.2.2.2.2.2.2.2.2.2.2]; rfl
  obtain ⟨c, c1, c2, c3⟩ := P
  obtain ⟨h', S', w1, w2, w3, w4, w5, w6⟩ := p_slay hW H5 hi (by omega) (a := 4) (b := 0) (s := 0) (by omega) (by omega) (by omega) (by omega) (c := c) (by simp only [if_pos (show 31 < 35 + 3 * i by omega)]; exact c1) c2 (by simp only [if_pos (show 32 < 35 + 3 * i by omega)]; exact c3)
  refine ⟨h', S', ?_, ?_, ?_, w2, fun k k1 k2 k3 => ?_, ⟨w5, w6⟩, fun o ho => ?_⟩
  · simp only [E_Scr_init hW, S0, a1, a2, a3, a4, a5, o5, w1]
  · rw [w3.1]; omega
  · rw [w3.1, s5, t4, s3, t2, s1]
  · rw [w4 k k2 k3 (by omega) (by omega) (by omega), if_pos k1]
  · rw [w3.2 _ (by omega), g5 _ (by omega), g4 _ (by omega), g3 _ (by omega), g2 _ (by omega), g1 _ (by omega)]
theorem va_up_if {N n b s i : Nat} (hi : i < n) : va_up (fun j => if j < i then some (N + (b + s * j)) else none) i (some (N + (b + s * i))) = fun j => if j < i + 1 then some (N + (b + s * j)) else none := by
  funext j
  unfold va_up
  by_cases c : j = i
  · subst c; rw [if_pos rfl, if_pos (by omega)]
  · rw [if_neg c]
    show (if j < i then some (N + (b + s * j)) else none) = _
    by_cases d : j < i
    · rw [if_pos d, if_pos (by omega)]
    · rw [if_neg d, if_neg (by omega)]
theorem i_shL (hW : xFix V W) {fs : List Value} (hf : xnth fs 0 = some (.ref (N + 60))) : ∀ (r i : Nat) (h : xH), i + r = 16 → h.2.1 = N + (61 + i) → h.1 (N + 59) = some (jO 5 fs) → h.1 (N + 60) = some (jR 11 16 (fun j => if j < i then some (N + (61 + 1 * j)) else none)) → (∀ j, j < i → h.1 (N + (61 + j)) = some (jO 6 (xF0 6))) →
    ∃ h' : xH, W m_She_init (15, [some (.ref (N + 59)), some (.int (Int32.ofInt ((i : Int))))], []) h = W m_She_init (40, [some (.ref (N + 59)), some (.int (Int32.ofInt 16))], []) h' ∧ h'.2.1 = N + 77 ∧ h'.2.2 = h.2.2 + 5 * r ∧ h'.1 (N + 60) = some (jR 11 16 (fun j => if j < 16 then some (N + (61 + 1 * j)) else none)) ∧ (∀ j, j < 16 → h'.1 (N + (61 + j)) = some (jO 6 (xF0 6))) ∧ ∀ o, o < N + 60 → h'.1 o = h.1 o := by
  intro r
  induction r with
  | zero =>
    intro i h hi hs o1 o2 o3
    have : i = 16 := by omega
    subst this
    refine ⟨h, ?_, hs, by omega, o2, o3, fun _ _ => rfl⟩
    rw [L_She_init_15 hW, show ((16 : Nat) : Int) = 16 from rfl]
    simp (disch := omega) only [↓reduceIte, S0, S1, J_lt, J_le, J_eq, J_ldI, J_ldI3, J_ldB, J_ldL, J_ldR, J_stI, J_stB, J_stL, J_dv, j_gne, C0, CM, CP, CR, CJ, CS, CL, and_self, and_true, true_and, and_false, false_and, or_true, true_or, or_false, false_or, not_true_eq_false, not_false_eq_true, Option.map_some, J_ltT, J_ltF, J_leT, J_leF, J_eqT, J_eqF, J_ntT, J_ntF]
  | succ r ih =>
    intro i h hi hs o1 o2 o3
    obtain ⟨h1, a1, s1, t1, n1, g1⟩ := b_new hs (xO' 6 (xF0 6)) 5
    have p2 := (g1 (N + 60) (by omega)).trans o2
    obtain ⟨h2, a2, s2, n2, g2⟩ := b_sR (h := h1) (o := N + 60) (o' := N + (61 + i)) (t := 11) (c := 6) (n := 16) (z := (i : Int)) p2 n1 rfl (by omega)
    rw [Int.toNat_natCast, show 61 + i = 61 + 1 * i by omega, va_up_if (n := 16) (by omega)] at n2
    obtain ⟨h', w1, w2, w3, w4, w5, w6⟩ := ih (i + 1) h2 (by omega) (by rw [s2]; omega) (by rw [g2 _ (by omega), g1 _ (by omega)]; exact o1) n2 (fun j hj => by
      rw [g2 _ (by omega)]
      by_cases e : j = i
      · subst e; exact n1
      · rw [g1 _ (by omega)]; exact o3 j (by omega))
    refine ⟨h', ?_, w2, by rw [w3, s2, t1]; omega, w4, w5, fun o ho => by rw [w6 o ho, g2 _ (by omega), g1 _ (by omega)]⟩
    rw [← w1, L_She_init_15 hW]
    simp (disch := omega) only [↓reduceIte, S0, S1, J_lt, J_le, J_eq, J_ldI, J_ldI3, J_ldB, J_ldL, J_ldR, J_stI, J_stB, J_stL, J_dv, j_gne, C0, CM, CP, CR, CJ, CS, CL, and_self, and_true, true_and, and_false, false_and, or_true, true_or, or_false, false_or, not_true_eq_false, not_false_eq_true, Option.map_some, J_ltT, J_ltF, J_leT, J_leF, J_eqT, J_eqF, J_ntT, J_ntF, E_She_init hW, o1, hf, hs, a1, E_Leaf_init hW, a2]
    rfl
theorem i_She (hW : xFix V W) {h : xH} (hs : h.2.1 = N + 60) (o0 : h.1 (N + 59) = some (jO 5 (xF0 5))) :
    ∃ h' : xH, W m_She_init (0, [some (.ref (N + 59)), none], []) h = some (.inl none, h') ∧ h'.2.1 = N + 78 ∧ h'.2.2 = h.2.2 + 16 + 5 * 16 + 16 ∧ (∀ k, 59 ≤ k → k < 78 → h'.1 (N + k) = some (cell N k (zS k) (T k))) ∧ ∀ o, o < N + 59 → h'.1 o = h.1 o := by
  obtain ⟨h1, a1, s1, t1, n1, g1⟩ := b_mk (h := h) (a := N + 60) hs 11 (z := 16) (n := 16) rfl (by omega)
  have o1 := (g1 (N + 59) (by omega)).trans o0
  obtain ⟨h2, a2, s2, o2, g2⟩ := b_pt (h := h1) o1 (b := 0) (kd := 2) (w := .ref (N + 60)) rfl rfl
  have z2 := (congrArg Prod.fst s2).trans s1
  obtain ⟨h3, w1, w2, w3, w4, w5, w6⟩ := i_shL hW (N := N) (fs := xupd (xF0 5) 0 (.ref (N + 60))) rfl 16 0 h2 (by omega) (by omega) o2 (by rw [g2 _ (by omega), n1]; rfl) (fun j hj => by omega)
  have o3 := (w6 (N + 59) (by omega)).trans o2
  obtain ⟨h4, a4, s4, t4, n4, g4⟩ := b_mk (h := h3) (a := N + 77) w2 0 (z := 16) (n := 16) rfl (by omega)
  have o4 := (g4 (N + 59) (by omega)).trans o3
  obtain ⟨h5, a5, s5, o5, g5⟩ := b_pt (h := h4) o4 (b := 1) (kd := 2) (w := .ref (N + 77)) rfl rfl
  have z5 := (congrArg Prod.fst s5).trans s4
  refine ⟨h5, ?_, by omega, ?_, fun k k1 k2 => ?_, fun o ho => ?_⟩
  · rw [show ((0 : Nat) : Int) = 0 from rfl] at w1
    simp only [E_She_init hW, S0, a1, a2, w1, a4, a5]
  · rw [s5, t4, w3, s2, t1]
  · by_cases c : k = 59
    · subst c; rw [o5]; rfl
    · by_cases c2 : k = 77
      · subst c2; rw [g5 _ (by omega), n4]; rfl
      · rw [g5 _ (by omega), g4 _ (by omega)]
        by_cases c3 : k = 60
        · subst c3; rw [w4]
          show some (jR 11 16 _) = some (jR 11 16 _)
          congr 2
          funext j
          rw [Nat.one_mul]
        · have := w5 (k - 61) (by omega)
          rw [show 61 + (k - 61) = k by omega] at this
          rw [this]
          have : k = 61 ∨ k = 62 ∨ k = 63 ∨ k = 64 ∨ k = 65 ∨ k = 66 ∨ k = 67 ∨ k = 68 ∨ k = 69 ∨ k = 70 ∨ k = 71 ∨ k = 72 ∨ k = 73 ∨ k = 74 ∨ k = 75 ∨ k = 76 := by omega
          rcases this with rfl | rfl | rfl | rfl | rfl | rfl | rfl | rfl | rfl | rfl | rfl | rfl | rfl | rfl | rfl | rfl <;> rfl
  · rw [g5 _ (by omega), g4 _ (by omega), w6 _ (by omega), g2 _ (by omega), g1 _ (by omega)]
end IBS
