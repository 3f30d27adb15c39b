section BY
variable {V : Nat → Value} {W : xWt} {N : Nat} {h : xH} {S : Nat → Nat → Int} {T : Nat → Nat → Int64}
theorem p_boxAll (hW : xFix V W) {p x y z c : Int} {w q : Nat} (hc : 0 ≤ c) (hc' : c < 64) (hx : 0 ≤ x) (hxw : x + w ≤ 48) (hy : 0 ≤ y) (hyz : y + z ≤ 64) (hz : 1 ≤ z) : ∀ (n : Nat) (row cnt : Int) (F : Nat → Int) (h : xH) (u : Option Value), h.1 q = some (jA 0 3072 F) → (∀ j, j < 3072 → 0 ≤ F j ∧ F j < 64) → 0 ≤ row → row + n = y + z →
    W m_Room_box (42, [some (.ref N), some (.int (Int32.ofInt p)), some (.int (Int32.ofInt x)), some (.int (Int32.ofInt y)), some (.int (Int32.ofInt w)), some (.int (Int32.ofInt z)), some (.int (Int32.ofInt c)), some (.ref q), some (.int (Int32.ofInt cnt)), some (.int (Int32.ofInt row)), u], []) h = some (.inl (some (jI (cnt + boxN c x w 0 n row F))), xset h q (jA 0 3072 (boxF c x w 0 n row F))) := by
  intro n
  induction n with
  | zero =>
    intro row cnt F h u hq hF h0 h1
    rw [L_Room_box_42 hW, show boxF c x w 0 0 row F = F from rfl, show cnt + boxN c x w 0 0 row F = cnt by show cnt + 0 = cnt; omega, j_id h hq]
    simp (disch := omega) only [↓reduceIte, S0, S1, J_lt, J_le, J_eq, J_ldI, J_ldI3, J_ldB, J_ldL, J_ldR, J_stI, J_stB, J_stL, J_dv, j_gne, C0, CM, CP, CR, CJ, CS, CL, and_self, and_true, true_and, and_false, false_and, or_true, true_or, or_false, false_or, not_true_eq_false, not_false_eq_true, Option.map_some, if_pos, E_Room_box hW]
  | succ n ih =>
    intro row cnt F h u hq hF h0 h1
    rw [L_Room_box_42 hW]
    have r1 := p_boxRow hW (N := N) (p := p) (x := x) (y := y) (w := w) (z := z) (c := c) (row := row) (q := q) hc hc' w (row * 48 + x) cnt F h hq hF (by omega) (by omega) (by omega)
    have ih1 := ih (row + 1) (cnt + cntF c w (row * 48 + x) F) (fillF c w (row * 48 + x) F) (xset h q (jA 0 3072 (fillF c w (row * 48 + x) F))) (some (.int (Int32.ofInt (row * 48 + x + w)))) (j_get _ _ _) (fillF_rng hc hc' w _ F hF) (by omega) (by omega)
    simp (disch := omega) only [↓reduceIte, S0, S1, J_lt, J_le, J_eq, J_ldI, J_ldI3, J_ldB, J_ldL, J_ldR, J_stI, J_stB, J_stL, J_dv, j_gne, C0, CM, CP, CR, CJ, CS, CL, and_self, and_true, true_and, and_false, false_and, or_true, true_or, or_false, false_or, not_true_eq_false, not_false_eq_true, Option.map_some, if_neg, E_Room_box hW, r1, ih1]
    have e : (0 : Int) + 48 * row + x = row * 48 + x := by omega
    show _ = some (Sum.inl (some (jI (cnt + (cntF c w (0 + 48 * row + x) F + boxN c x w 0 n (row + 1) (fillF c w (0 + 48 * row + x) F))))), xset h q (jA 0 3072 (boxF c x w 0 n (row + 1) (fillF c w (0 + 48 * row + x) F))))
    rw [e, Int.add_assoc]
theorem p_box (hW : xFix V W) (H : HP N h S T) {p x y w z c : Int} (hp : j32 p) (hx : j32 x) (hy : j32 y) (hw : j32 w) (hz : j32 z) (hc : j32 c) (hF : ∀ k, k < 4 → ∀ j, j < 3072 → 0 ≤ S (3 + k) j ∧ S (3 + k) j < 64) :
    W m_Room_box (0, [some (.ref N), some (.int (Int32.ofInt p)), some (.int (Int32.ofInt x)), some (.int (Int32.ofInt y)), some (.int (Int32.ofInt w)), some (.int (Int32.ofInt z)), some (.int (Int32.ofInt c)), none, none, none, none], []) h =
      if (0 ≤ p ∧ p < 4) ∧ (0 ≤ c ∧ c < 64) then (if ((0 ≤ x ∧ x ≤ 47) ∧ (1 ≤ w ∧ w ≤ 48 - x)) ∧ ((0 ≤ y ∧ y ≤ 63) ∧ (1 ≤ z ∧ z ≤ 64 - y)) then some (.inl (some (jI (boxN c x w.toNat 0 z.toNat y (S (3 + p.toNat))))), xset h (N + (3 + p.toNat)) (jA 0 3072 (boxF c x w.toNat 0 z.toNat y (S (3 + p.toNat))))) else jX 9 h) else jX 8 h := by
  by_cases a1 : 0 ≤ p ∧ p < 4
  · by_cases a2 : 0 ≤ c ∧ c < 64
    · by_cases a3 : (0 ≤ x ∧ x ≤ 47) ∧ (1 ≤ w ∧ w ≤ 48 - x)
      · by_cases a4 : (0 ≤ y ∧ y ≤ 63) ∧ (1 ≤ z ∧ z ≤ 64 - y)
        · have hq : h.1 (N + (3 + p.toNat)) = some (jA 0 3072 (S (3 + p.toNat))) := by rw [H.get (by omega), cell_page _ _ _ (by omega)]
          have ew : ((w.toNat : Nat) : Int) = w := by omega
          have r1 := p_boxAll hW (N := N) (p := p) (x := x) (y := y) (z := z) (c := c) (w := w.toNat) (q := N + (3 + p.toNat)) a2.1 a2.2 (by omega) (by omega) (by omega) (by omega) (by omega) z.toNat y 0 (S (3 + p.toNat)) h none hq (hF _ (by omega)) (by omega) (by omega)
          rw [ew] at r1
          simp (disch := omega) only [↓reduceIte, S0, S1, J_lt, J_le, J_eq, J_ldI, J_ldI3, J_ldB, J_ldL, J_ldR, J_stI, J_stB, J_stL, J_dv, j_gne, C0, CM, CP, CR, CJ, CS, CL, and_self, and_true, true_and, and_false, false_and, or_true, true_or, or_false, false_or, not_true_eq_false, not_false_eq_true, Option.map_some, E_Room_box hW, p_needIndex hW, p_needSpan hW, a1, a2, show (0 ≤ x ∧ x ≤ 48 - 1) ∧ (1 ≤ w ∧ w ≤ 48 - x) by omega, show (0 ≤ y ∧ y ≤ 64 - 1) ∧ (1 ≤ z ∧ z ≤ 64 - y) by omega, a3, a4, and_self, if_true, H.get0, H.get, Option.map_some, if_pos, r1, Int.zero_add]
        · simp (disch := omega) only [↓reduceIte, S0, S1, J_lt, J_le, J_eq, J_ldI, J_ldI3, J_ldB, J_ldL, J_ldR, J_stI, J_stB, J_stL, J_dv, j_gne, C0, CM, CP, CR, CJ, CS, CL, and_self, and_true, true_and, and_false, false_and, or_true, true_or, or_false, false_or, not_true_eq_false, not_false_eq_true, Option.map_some, E_Room_box hW, p_needIndex hW, p_needSpan hW, a1, a2, show (0 ≤ x ∧ x ≤ 48 - 1) ∧ (1 ≤ w ∧ w ≤ 48 - x) by omega, show ¬ ((0 ≤ y ∧ y ≤ 64 - 1) ∧ (1 ≤ z ∧ z ≤ 64 - y)) by omega, a3, a4, and_self, and_false, if_true, if_false, jX_ret X_Room_box]
      · simp (disch := omega) only [↓reduceIte, S0, S1, J_lt, J_le, J_eq, J_ldI, J_ldI3, J_ldB, J_ldL, J_ldR, J_stI, J_stB, J_stL, J_dv, j_gne, C0, CM, CP, CR, CJ, CS, CL, and_self, and_true, true_and, and_false, false_and, or_true, true_or, or_false, false_or, not_true_eq_false, not_false_eq_true, Option.map_some, E_Room_box hW, p_needIndex hW, p_needSpan hW, a1, a2, show ¬ ((0 ≤ x ∧ x ≤ 48 - 1) ∧ (1 ≤ w ∧ w ≤ 48 - x)) by omega, a3, and_self, false_and, if_true, if_false, jX_ret X_Room_box]
    · simp (disch := omega) only [↓reduceIte, S0, S1, J_lt, J_le, J_eq, J_ldI, J_ldI3, J_ldB, J_ldL, J_ldR, J_stI, J_stB, J_stL, J_dv, j_gne, C0, CM, CP, CR, CJ, CS, CL, and_self, and_true, true_and, and_false, false_and, or_true, true_or, or_false, false_or, not_true_eq_false, not_false_eq_true, Option.map_some, E_Room_box hW, p_needIndex hW, a1, a2, and_false, if_true, if_false, jX_ret X_Room_box]
  · simp (disch := omega) only [↓reduceIte, S0, S1, J_lt, J_le, J_eq, J_ldI, J_ldI3, J_ldB, J_ldL, J_ldR, J_stI, J_stB, J_stL, J_dv, j_gne, C0, CM, CP, CR, CJ, CS, CL, and_self, and_true, true_and, and_false, false_and, or_true, true_or, or_false, false_or, not_true_eq_false, not_false_eq_true, Option.map_some, E_Room_box hW, p_needIndex hW, a1, false_and, if_false, jX_ret X_Room_box]
theorem q_boxRow (hW : xFix V W) {p x y w z c row : Int} {FM : Nat → Int} {GM : Nat → Int64} (hc : 0 ≤ c) (hc' : c < 64) (hp : 0 ≤ p) (hp' : p < 4) (hr : 0 ≤ row) (hr' : row < 64) (hx : 0 ≤ x) (hxw : x + w ≤ 48) (hw0 : 0 ≤ w) : ∀ (n : Nat) (k cnt : Int) (F : Nat → Int) (h : xH), h.1 (N + 78) = some (cell N 78 FM GM) → h.1 (N + 80) = some (jA 0 12288 F) → (∀ j, j < 12288 → 0 ≤ F j ∧ F j < 64) → x ≤ k → k + n = x + w →
    W m_Mod_box (103, [some (.ref (N + 78)), some (.int (Int32.ofInt p)), some (.int (Int32.ofInt x)), some (.int (Int32.ofInt y)), some (.int (Int32.ofInt w)), some (.int (Int32.ofInt z)), some (.int (Int32.ofInt c)), some (.int (Int32.ofInt cnt)), some (.int (Int32.ofInt row)), some (.int (Int32.ofInt k))], []) h =
      W m_Mod_box (161, [some (.ref (N + 78)), some (.int (Int32.ofInt p)), some (.int (Int32.ofInt x)), some (.int (Int32.ofInt y)), some (.int (Int32.ofInt w)), some (.int (Int32.ofInt z)), some (.int (Int32.ofInt c)), some (.int (Int32.ofInt (cnt + cntF c n (3072 * p + 48 * row + k) F))), some (.int (Int32.ofInt row)), some (.int (Int32.ofInt (x + w)))], []) (xset h (N + 80) (jA 0 12288 (fillF c n (3072 * p + 48 * row + k) F))) := by
  intro n
  induction n with
  | zero =>
    intro k cnt F h hm hq hF h0 h1
    rw [L_Mod_box_103 hW]
    have e1 : x + w = k := by omega
    have e2 : cnt + cntF c 0 (3072 * p + 48 * row + k) F = cnt := by show cnt + 0 = cnt; omega
    rw [e2, show fillF c 0 (3072 * p + 48 * row + k) F = F from rfl, j_id h hq]
    simp (disch := omega) only [↓reduceIte, S0, S1, J_lt, J_le, J_eq, J_ldI, J_ldI3, J_ldB, J_ldL, J_ldR, J_stI, J_stB, J_stL, J_dv, j_gne, C0, CM, CP, CR, CJ, CS, CL, and_self, and_true, true_and, and_false, false_and, or_true, true_or, or_false, false_or, not_true_eq_false, not_false_eq_true, Option.map_some, if_pos, e1]
  | succ n ih =>
    intro k cnt F h hm hq hF h0 h1
    rw [L_Mod_box_103 hW]
    have hb := hF (3072 * p + 48 * row + k).toNat (by omega)
    have ea : 3072 * p + 48 * row + (k + 1) = 3072 * p + 48 * row + k + 1 := by omega
    by_cases e : F (3072 * p + 48 * row + k).toNat = c
    · have ih1 := ih (k + 1) cnt F h hm hq hF (by omega) (by omega)
      simp (disch := omega) only [↓reduceIte, S0, S1, J_lt, J_le, J_eq, J_ldI, J_ldI3, J_ldB, J_ldL, J_ldR, J_stI, J_stB, J_stL, J_dv, j_gne, C0, CM, CP, CR, CJ, CS, CL, and_self, and_true, true_and, and_false, false_and, or_true, true_or, or_false, false_or, not_true_eq_false, not_false_eq_true, Option.map_some, if_neg, E_Mod_box hW, hm, hq, q_at hW, e, if_true, jup_id e, j_id h hq, Int.add_zero, ih1]
      have e3 : fillF c (n + 1) (3072 * p + 48 * row + k) F = fillF c n (3072 * p + 48 * row + k + 1) F := by show fillF c n (_ + 1) (jup F _ c) = _; rw [jup_id e]
      have e4 : cntF c (n + 1) (3072 * p + 48 * row + k) F = cntF c n (3072 * p + 48 * row + k + 1) F := by show (if F _ = c then 0 else 1) + cntF c n (_ + 1) (jup F _ c) = _; rw [jup_id e, if_pos e]; omega
      rw [e3, e4, ea]
    · have ih1 := ih (k + 1) (cnt + 1) (jup F (3072 * p + 48 * row + k).toNat c) (xset h (N + 80) (jA 0 12288 (jup F (3072 * p + 48 * row + k).toNat c))) (by rw [j_gne _ _ (by omega)]; exact hm) (j_get _ _ _) (jup_rng hF hc hc') (by omega) (by omega)
      simp (disch := omega) only [↓reduceIte, S0, S1, J_lt, J_le, J_eq, J_ldI, J_ldI3, J_ldB, J_ldL, J_ldR, J_stI, J_stB, J_stL, J_dv, j_gne, C0, CM, CP, CR, CJ, CS, CL, and_self, and_true, true_and, and_false, false_and, or_true, true_or, or_false, false_or, not_true_eq_false, not_false_eq_true, Option.map_some, if_neg, E_Mod_box hW, hm, hq, q_at hW, e, if_false, ih1]
      have e4 : cnt + cntF c (n + 1) (3072 * p + 48 * row + k) F = cnt + 1 + cntF c n (3072 * p + 48 * row + k + 1) (jup F (3072 * p + 48 * row + k).toNat c) := by show cnt + ((if F _ = c then 0 else 1) + cntF c n (_ + 1) (jup F _ c)) = _; rw [if_neg e]; omega
      rw [e4, ea]
      rfl
theorem q_boxAll (hW : xFix V W) {p x y z c : Int} {w : Nat} {FM : Nat → Int} {GM : Nat → Int64} (hc : 0 ≤ c) (hc' : c < 64) (hp : 0 ≤ p) (hp' : p < 4) (hx : 0 ≤ x) (hxw : x + w ≤ 48) (hy : 0 ≤ y) (hyz : y + z ≤ 64) (hz : 1 ≤ z) : ∀ (n : Nat) (row cnt : Int) (F : Nat → Int) (h : xH) (u : Option Value), h.1 (N + 78) = some (cell N 78 FM GM) → h.1 (N + 80) = some (jA 0 12288 F) → (∀ j, j < 12288 → 0 ≤ F j ∧ F j < 64) → 0 ≤ row → row + n = y + z →
    W m_Mod_box (91, [some (.ref (N + 78)), some (.int (Int32.ofInt p)), some (.int (Int32.ofInt x)), some (.int (Int32.ofInt y)), some (.int (Int32.ofInt w)), some (.int (Int32.ofInt z)), some (.int (Int32.ofInt c)), some (.int (Int32.ofInt cnt)), some (.int (Int32.ofInt row)), u], []) h = some (.inl (some (jI (cnt + boxN c x w (3072 * p) n row F))), xset h (N + 80) (jA 0 12288 (boxF c x w (3072 * p) n row F))) := by
  intro n
  induction n with
  | zero =>
    intro row cnt F h u hm hq hF h0 h1
    rw [L_Mod_box_91 hW, show boxF c x w (3072 * p) 0 row F = F from rfl, show cnt + boxN c x w (3072 * p) 0 row F = cnt by show cnt + 0 = cnt; omega, j_id h hq]
    simp (disch := omega) only [↓reduceIte, S0, S1, J_lt, J_le, J_eq, J_ldI, J_ldI3, J_ldB, J_ldL, J_ldR, J_stI, J_stB, J_stL, J_dv, j_gne, C0, CM, CP, CR, CJ, CS, CL, and_self, and_true, true_and, and_false, false_and, or_true, true_or, or_false, false_or, not_true_eq_false, not_false_eq_true, Option.map_some, if_pos, E_Mod_box hW]
  | succ n ih =>
    intro row cnt F h u hm hq hF h0 h1
    rw [L_Mod_box_91 hW]
    have r1 := q_boxRow hW (N := N) (p := p) (x := x) (y := y) (w := w) (z := z) (c := c) (row := row) (FM := FM) (GM := GM) hc hc' hp hp' h0 (by omega) hx hxw (by omega) w x cnt F h hm hq hF (by omega) (by omega)
    have ih1 := ih (row + 1) (cnt + cntF c w (3072 * p + 48 * row + x) F) (fillF c w (3072 * p + 48 * row + x) F) (xset h (N + 80) (jA 0 12288 (fillF c w (3072 * p + 48 * row + x) F))) (some (.int (Int32.ofInt (x + w)))) (by rw [j_gne _ _ (by omega)]; exact hm) (j_get _ _ _) (fillF_rng hc hc' w _ F hF) (by omega) (by omega)
    simp (disch := omega) only [↓reduceIte, S0, S1, J_lt, J_le, J_eq, J_ldI, J_ldI3, J_ldB, J_ldL, J_ldR, J_stI, J_stB, J_stL, J_dv, j_gne, C0, CM, CP, CR, CJ, CS, CL, and_self, and_true, true_and, and_false, false_and, or_true, true_or, or_false, false_or, not_true_eq_false, not_false_eq_true, Option.map_some, if_neg, E_Mod_box hW, r1, ih1]
    show _ = some (Sum.inl (some (jI (cnt + (cntF c w (3072 * p + 48 * row + x) F + boxN c x w (3072 * p) n (row + 1) (fillF c w (3072 * p + 48 * row + x) F))))), xset h (N + 80) (jA 0 12288 (boxF c x w (3072 * p) n (row + 1) (fillF c w (3072 * p + 48 * row + x) F))))
    rw [Int.add_assoc]
end BY
section BZ
variable {V : Nat → Value} {W : xWt} {N : Nat} {h : xH} {S : Nat → Nat → Int} {T : Nat → Nat → Int64}
theorem q_box (hW : xFix V W) (H : HP N h S T) {p x y w z c : Int} (hp : j32 p) (hx : j32 x) (hy : j32 y) (hw : j32 w) (hz : j32 z) (hc : j32 c) (hF : ∀ j, j < 12288 → 0 ≤ S 80 j ∧ S 80 j < 64) :
    W m_Mod_box (0, [some (.ref (N + 78)), some (.int (Int32.ofInt p)), some (.int (Int32.ofInt x)), some (.int (Int32.ofInt y)), some (.int (Int32.ofInt w)), some (.int (Int32.ofInt z)), some (.int (Int32.ofInt c)), none, none, none], []) h =
      if (0 ≤ p ∧ p < 4) ∧ (0 ≤ c ∧ c < 64) then (if ((0 ≤ x ∧ x ≤ 47) ∧ (1 ≤ w ∧ w ≤ 48 - x)) ∧ ((0 ≤ y ∧ y ≤ 63) ∧ (1 ≤ z ∧ z ≤ 64 - y)) then some (.inl (some (jI (boxN c x w.toNat (3072 * p) z.toNat y (S 80)))), xset (hth N h S T 0) (N + 80) (jA 0 12288 (boxF c x w.toNat (3072 * p) z.toNat y (S 80)))) else some (.inl (some (jI 0)), hth N h S T 2)) else some (.inl (some (jI 0)), hth N h S T 1) := by
  have g1 : (hth N h S T 0).1 (N + 78) = some (cell N 78 (jup (S 78) 0 0) (T 78)) := j_get _ _ _
  have g2 : (hth N h S T 0).1 (N + 80) = some (jA 0 12288 (S 80)) := by rw [j_gne _ _ (by omega)]; exact H.get (by omega)
  have s0 : W m_Mod_box (0, [some (.ref (N + 78)), some (.int (Int32.ofInt p)), some (.int (Int32.ofInt x)), some (.int (Int32.ofInt y)), some (.int (Int32.ofInt w)), some (.int (Int32.ofInt z)), some (.int (Int32.ofInt c)), none, none, none], []) h = W m_Mod_box (5, [some (.ref (N + 78)), some (.int (Int32.ofInt p)), some (.int (Int32.ofInt x)), some (.int (Int32.ofInt y)), some (.int (Int32.ofInt w)), some (.int (Int32.ofInt z)), some (.int (Int32.ofInt c)), none, none, none], []) (hth N h S T 0) := by
    rw [(E_Mod_box hW).1]
    simp (disch := omega) only [↓reduceIte, S0, S1, J_lt, J_le, J_eq, J_ldI, J_ldI3, J_ldB, J_ldL, J_ldR, J_stI, J_stB, J_stL, J_dv, j_gne, C0, CM, CP, CR, CJ, CS, CL, and_self, and_true, true_and, and_false, false_and, or_true, true_or, or_false, false_or, not_true_eq_false, not_false_eq_true, Option.map_some, H.get]
  have f1 : ∀ z : Int, W m_Mod_fail (0, [some (.ref (N + 78)), some (.int (Int32.ofInt z))], []) (hth N h S T 0) = some (.inl (some (jI 0)), hth N h S T z) := fun z => by
    rw [q_fail hW g1, j_ss, jup_jup]
  rw [s0]
  by_cases a1 : 0 ≤ p ∧ p < 4
  · by_cases a2 : 0 ≤ c ∧ c < 64
    · by_cases a5 : ((0 ≤ x ∧ x ≤ 47) ∧ (1 ≤ w ∧ w ≤ 48 - x)) ∧ ((0 ≤ y ∧ y ≤ 63) ∧ (1 ≤ z ∧ z ≤ 64 - y))
      · have ew : ((w.toNat : Nat) : Int) = w := by omega
        have r1 := q_boxAll hW (N := N) (p := p) (x := x) (y := y) (z := z) (c := c) (w := w.toNat) (FM := jup (S 78) 0 0) (GM := T 78) a2.1 a2.2 a1.1 a1.2 (by omega) (by omega) (by omega) (by omega) (by omega) z.toNat y 0 (S 80) (hth N h S T 0) none g1 g2 hF (by omega) (by omega)
        rw [ew] at r1
        simp (disch := omega) only [↓reduceIte, S0, S1, J_lt, J_le, J_eq, J_ldI, J_ldI3, J_ldB, J_ldL, J_ldR, J_stI, J_stB, J_stL, J_dv, j_gne, C0, CM, CP, CR, CJ, CS, CL, and_self, and_true, true_and, and_false, false_and, or_true, true_or, or_false, false_or, not_true_eq_false, not_false_eq_true, Option.map_some, J_ltT, J_ltF, J_leT, J_leF, J_eqT, J_eqF, J_ntT, J_ntF, E_Mod_box hW, q_isPage hW, q_within hW, r1, Int.zero_add]
      · rw [if_neg a5]
        by_cases b1 : 0 ≤ x ∧ x ≤ 47
        · by_cases b2 : 0 ≤ y ∧ y ≤ 63
          · simp (disch := omega) only [↓reduceIte, S0, S1, J_lt, J_le, J_eq, J_ldI, J_ldI3, J_ldB, J_ldL, J_ldR, J_stI, J_stB, J_stL, J_dv, j_gne, C0, CM, CP, CR, CJ, CS, CL, and_self, and_true, true_and, and_false, false_and, or_true, true_or, or_false, false_or, not_true_eq_false, not_false_eq_true, Option.map_some, J_ltT, J_ltF, J_leT, J_leF, J_eqT, J_eqF, J_ntT, J_ntF, E_Mod_box hW, q_isPage hW, q_within hW, f1, g1]
            repeat' split
            all_goals first | rfl | omega
          · simp (disch := omega) only [↓reduceIte, S0, S1, J_lt, J_le, J_eq, J_ldI, J_ldI3, J_ldB, J_ldL, J_ldR, J_stI, J_stB, J_stL, J_dv, j_gne, C0, CM, CP, CR, CJ, CS, CL, and_self, and_true, true_and, and_false, false_and, or_true, true_or, or_false, false_or, not_true_eq_false, not_false_eq_true, Option.map_some, J_ltT, J_ltF, J_leT, J_leF, J_eqT, J_eqF, J_ntT, J_ntF, E_Mod_box hW, q_isPage hW, q_within hW, f1, g1]
            repeat' split
            all_goals first | rfl | omega
        · simp (disch := omega) only [↓reduceIte, S0, S1, J_lt, J_le, J_eq, J_ldI, J_ldI3, J_ldB, J_ldL, J_ldR, J_stI, J_stB, J_stL, J_dv, j_gne, C0, CM, CP, CR, CJ, CS, CL, and_self, and_true, true_and, and_false, false_and, or_true, true_or, or_false, false_or, not_true_eq_false, not_false_eq_true, Option.map_some, J_ltT, J_ltF, J_leT, J_leF, J_eqT, J_eqF, J_ntT, J_ntF, E_Mod_box hW, q_isPage hW, q_within hW, f1, g1]
          repeat' split
          all_goals first | rfl | omega
    · simp (disch := omega) only [↓reduceIte, S0, S1, J_lt, J_le, J_eq, J_ldI, J_ldI3, J_ldB, J_ldL, J_ldR, J_stI, J_stB, J_stL, J_dv, j_gne, C0, CM, CP, CR, CJ, CS, CL, and_self, and_true, true_and, and_false, false_and, or_true, true_or, or_false, false_or, not_true_eq_false, not_false_eq_true, Option.map_some, E_Mod_box hW, q_isPage hW, q_within hW, show 0 ≤ p ∧ p ≤ 3 by omega, show ¬ (0 ≤ c ∧ c ≤ 63) by omega, a1, a2, f1, g1]
  · simp (disch := omega) only [↓reduceIte, S0, S1, J_lt, J_le, J_eq, J_ldI, J_ldI3, J_ldB, J_ldL, J_ldR, J_stI, J_stB, J_stL, J_dv, j_gne, C0, CM, CP, CR, CJ, CS, CL, and_self, and_true, true_and, and_false, false_and, or_true, true_or, or_false, false_or, not_true_eq_false, not_false_eq_true, Option.map_some, E_Mod_box hW, q_isPage hW, q_within hW, show ¬ (0 ≤ p ∧ p ≤ 3) by omega, a1, f1, g1]
end BZ
