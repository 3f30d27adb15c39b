/-! folding a leaf -/
def lf (c r a u t : Int) : Nat → Int := fun k => if k = 0 then c else if k = 1 then r else if k = 2 then a else if k = 3 then u else if k = 4 then t else 0
theorem LF (c r a u t : Int) : lf c r a u t 0 = c ∧ lf c r a u t 1 = r ∧ lf c r a u t 2 = a ∧ lf c r a u t 3 = u ∧ lf c r a u t 4 = t ∧ (∀ v, jup (lf c r a u t) 0 v = lf v r a u t) ∧ (∀ v, jup (lf c r a u t) 1 v = lf c v a u t) ∧ (∀ v, jup (lf c r a u t) 2 v = lf c r v u t) ∧ (∀ v, jup (lf c r a u t) 3 v = lf c r a v t) ∧ (∀ v, jup (lf c r a u t) 4 v = lf c r a u v) := by
  refine ⟨rfl, rfl, rfl, rfl, rfl, fun v => ?_, fun v => ?_, fun v => ?_, fun v => ?_, fun v => ?_⟩ <;> funext k <;> unfold jup lf <;> repeat' split <;> first | rfl | omega
  all_goals (repeat' split) <;> first | rfl | omega
def fR (cols pile : Int) (L : Int × Int × Int × Int × Int) : Int × Int × Int × Int × Int := if L.1 < cols / 2 then (L.1, L.2.1, L.2.2.1 + pile, L.2.2.2.1, L.2.2.2.2) else (cols - 1 - L.1, L.2.1, pile - 1 - L.2.2.1, 1 - L.2.2.2.1, L.2.2.2.2)
def fL (rows pile : Int) (L : Int × Int × Int × Int × Int) : Int × Int × Int × Int × Int := if L.2.1 < rows / 2 then (L.1, L.2.1, L.2.2.1 + pile, L.2.2.2.1, L.2.2.2.2) else (L.1, rows - 1 - L.2.1, pile - 1 - L.2.2.1, 1 - L.2.2.2.1, 1 - L.2.2.2.2)
def fAll : Nat → Bool → Int → Int → Int → Int × Int × Int × Int × Int → Int × Int × Int × Int × Int
  | 0, _, _, _, _, L => L
  | n + 1, true, cols, rows, pile, L => fAll n false (cols / 2) rows (pile * 2) (fR cols pile L)
  | n + 1, false, cols, rows, pile, L => fAll n true cols (rows / 2) (pile * 2) (fL rows pile L)
def colsOf (f : Nat) : Int := if f < 3 then 2 else 4
def lv (f : Nat) (c r : Int) : Int × Int × Int × Int × Int := fAll f true (colsOf f) (2 ^ f / colsOf f) 1 (c, r, 0, 0, 0)
def lfT (L : Int × Int × Int × Int × Int) : Nat → Int := lf L.1 L.2.1 L.2.2.1 L.2.2.2.1 L.2.2.2.2
section SL
variable {V : Nat → Value} {W : xWt} {N : Nat} {h : xH} {G : Nat → Int64} {c r a u t : Int} {i : Nat}
theorem p_start (hW : xFix V W) {F : Nat → Int} (hi : i < 16) (ho : h.1 (N + (61 + i)) = some (cell N (61 + i) F G)) {x y : Int} : W m_Leaf_start (0, [some (.ref (N + (61 + i))), some (.int (Int32.ofInt x)), some (.int (Int32.ofInt y))], []) h = some (.inl none, xset h (N + (61 + i)) (cell N (61 + i) (lf x y 0 0 0) G)) := by
  simp (disch := omega) only [↓reduceIte, S0, S1, J_lt, J_le, J_eq, J_ldI, J_ldI3, J_ldB, J_ldL, J_ldR, J_stI, J_stB, J_stL, J_dv, j_gne, C0, CM, CP, CR, CJ, CS, CL, and_self, and_true, true_and, and_false, false_and, or_true, true_or, or_false, false_or, not_true_eq_false, not_false_eq_true, Option.map_some, E_Leaf_start hW, ho]
  rw [(cell_leaf N _ G hi), (cell_leaf N _ G hi)]
  rfl
theorem p_turnOver (hW : xFix V W) (hi : i < 16) (ho : h.1 (N + (61 + i)) = some (cell N (61 + i) (lf c r a u t) G)) {pile : Int} : W m_Leaf_turnOver (0, [some (.ref (N + (61 + i))), some (.int (Int32.ofInt pile))], []) h = some (.inl none, xset h (N + (61 + i)) (cell N (61 + i) (lf c r (pile - 1 - a) (1 - u) t) G)) := by
  simp (disch := omega) only [↓reduceIte, S0, S1, J_lt, J_le, J_eq, J_ldI, J_ldI3, J_ldB, J_ldL, J_ldR, J_stI, J_stB, J_stL, J_dv, j_gne, C0, CM, CP, CR, CJ, CS, CL, and_self, and_true, true_and, and_false, false_and, or_true, true_or, or_false, false_or, not_true_eq_false, not_false_eq_true, Option.map_some, E_Leaf_turnOver hW, ho, LF]
theorem p_foldR (hW : xFix V W) (hi : i < 16) (ho : h.1 (N + (61 + i)) = some (cell N (61 + i) (lf c r a u t) G)) {cols pile : Int} (h1 : 0 ≤ cols ∧ cols ≤ 100) (h2 : 0 ≤ c ∧ c ≤ 100) : W m_Leaf_foldRightOnLeft (0, [some (.ref (N + (61 + i))), some (.int (Int32.ofInt cols)), some (.int (Int32.ofInt pile))], []) h = some (.inl none, xset h (N + (61 + i)) (cell N (61 + i) (lfT (fR cols pile (c, r, a, u, t))) G)) := by
  have ht := p_turnOver hW hi (h := xset h (N + (61 + i)) (cell N (61 + i) (lf (cols - 1 - c) r a u t) G)) (G := G) (j_get _ _ _) (pile := pile)
  rw [j_ss] at ht
  by_cases e : c < cols / 2
  · have e1 : fR cols pile (c, r, a, u, t) = (c, r, a + pile, u, t) := by unfold fR; rw [if_pos e]
    rw [e1]
    simp (disch := omega) only [↓reduceIte, S0, S1, J_lt, J_le, J_eq, J_ldI, J_ldI3, J_ldB, J_ldL, J_ldR, J_stI, J_stB, J_stL, J_dv, j_gne, C0, CM, CP, CR, CJ, CS, CL, and_self, and_true, true_and, and_false, false_and, or_true, true_or, or_false, false_or, not_true_eq_false, not_false_eq_true, Option.map_some, J_ltT, J_ltF, J_leT, J_leF, J_eqT, J_eqF, J_ntT, J_ntF, E_Leaf_foldRightOnLeft hW, ho, LF, J_div]
    rfl
  · have e1 : fR cols pile (c, r, a, u, t) = (cols - 1 - c, r, pile - 1 - a, 1 - u, t) := by unfold fR; rw [if_neg e]
    rw [e1]
    simp (disch := omega) only [↓reduceIte, S0, S1, J_lt, J_le, J_eq, J_ldI, J_ldI3, J_ldB, J_ldL, J_ldR, J_stI, J_stB, J_stL, J_dv, j_gne, C0, CM, CP, CR, CJ, CS, CL, and_self, and_true, true_and, and_false, false_and, or_true, true_or, or_false, false_or, not_true_eq_false, not_false_eq_true, Option.map_some, J_ltT, J_ltF, J_leT, J_leF, J_eqT, J_eqF, J_ntT, J_ntF, E_Leaf_foldRightOnLeft hW, ho, LF, J_div, ht]
    rfl
theorem p_foldL (hW : xFix V W) (hi : i < 16) (ho : h.1 (N + (61 + i)) = some (cell N (61 + i) (lf c r a u t) G)) {rows pile : Int} (h1 : 0 ≤ rows ∧ rows ≤ 100) (h2 : 0 ≤ r ∧ r ≤ 100) : W m_Leaf_foldLowerOnUpper (0, [some (.ref (N + (61 + i))), some (.int (Int32.ofInt rows)), some (.int (Int32.ofInt pile))], []) h = some (.inl none, xset h (N + (61 + i)) (cell N (61 + i) (lfT (fL rows pile (c, r, a, u, t))) G)) := by
  have ht := p_turnOver hW hi (h := xset h (N + (61 + i)) (cell N (61 + i) (lf c (rows - 1 - r) a u t) G)) (G := G) (j_get _ _ _) (pile := pile)
  rw [j_ss] at ht
  by_cases e : r < rows / 2
  · have e1 : fL rows pile (c, r, a, u, t) = (c, r, a + pile, u, t) := by unfold fL; rw [if_pos e]
    rw [e1]
    simp (disch := omega) only [↓reduceIte, S0, S1, J_lt, J_le, J_eq, J_ldI, J_ldI3, J_ldB, J_ldL, J_ldR, J_stI, J_stB, J_stL, J_dv, j_gne, C0, CM, CP, CR, CJ, CS, CL, and_self, and_true, true_and, and_false, false_and, or_true, true_or, or_false, false_or, not_true_eq_false, not_false_eq_true, Option.map_some, J_ltT, J_ltF, J_leT, J_leF, J_eqT, J_eqF, J_ntT, J_ntF, E_Leaf_foldLowerOnUpper hW, ho, LF, J_div]
    rfl
  · have e1 : fL rows pile (c, r, a, u, t) = (c, rows - 1 - r, pile - 1 - a, 1 - u, 1 - t) := by unfold fL; rw [if_neg e]
    rw [e1]
    simp (disch := omega) only [↓reduceIte, S0, S1, J_lt, J_le, J_eq, J_ldI, J_ldI3, J_ldB, J_ldL, J_ldR, J_stI, J_stB, J_stL, J_dv, j_gne, C0, CM, CP, CR, CJ, CS, CL, and_self, and_true, true_and, and_false, false_and, or_true, true_or, or_false, false_or, not_true_eq_false, not_false_eq_true, Option.map_some, J_ltT, J_ltF, J_leT, J_leF, J_eqT, J_eqF, J_ntT, J_ntF, E_Leaf_foldLowerOnUpper hW, ho, LF, J_div, ht]
    rfl
/-- the leaf stays on the sheet -/
theorem fR_rng {cols pile : Int} {L : Int × Int × Int × Int × Int} (h : 0 ≤ L.1 ∧ L.1 < cols) (h' : cols = 2 ∨ cols = 4) : 0 ≤ (fR cols pile L).1 ∧ (fR cols pile L).1 < cols / 2 ∧ (fR cols pile L).2.1 = L.2.1 := by
  unfold fR
  split
  · next e => exact ⟨h.1, e, rfl⟩
  · next e => exact ⟨by dsimp only; omega, by dsimp only; omega, rfl⟩
theorem fL_rng {rows pile : Int} {L : Int × Int × Int × Int × Int} (h : 0 ≤ L.2.1 ∧ L.2.1 < rows) (h' : rows = 2 ∨ rows = 4) : 0 ≤ (fL rows pile L).2.1 ∧ (fL rows pile L).2.1 < rows / 2 ∧ (fL rows pile L).1 = L.1 := by
  unfold fL
  split
  · next e => exact ⟨h.1, e, rfl⟩
  · next e => exact ⟨by dsimp only; omega, by dsimp only; omega, rfl⟩
def good : Nat → Bool → Int → Int → Prop
  | 0, _, _, _ => True
  | n + 1, true, c, r => (c = 2 ∨ c = 4) ∧ good n false (c / 2) r
  | n + 1, false, c, r => (r = 2 ∨ r = 4) ∧ good n true c (r / 2)
theorem p_foldLoop (hW : xFix V W) (hi : i < 16) {f ac : Int} (hf : f ≤ 4) : ∀ (n : Nat) (k cols rows pile : Int) (b : Bool) (L : Int × Int × Int × Int × Int) (h : xH), h.1 (N + (61 + i)) = some (cell N (61 + i) (lfT L) G) → 1 ≤ k → k + n = f + 1 → k % 2 = (if b then 1 else 0) → (0 ≤ L.1 ∧ L.1 < cols) → (0 ≤ L.2.1 ∧ L.2.1 < rows) → cols ≤ 4 → rows ≤ 4 → good n b cols rows →
    W m_She_fold (17, [some (.ref (N + 59)), some (.ref (N + (61 + i))), some (.int (Int32.ofInt f)), some (.int (Int32.ofInt ac)), some (.int (Int32.ofInt cols)), some (.int (Int32.ofInt rows)), some (.int (Int32.ofInt pile)), some (.int (Int32.ofInt k))], []) h = some (.inl none, xset h (N + (61 + i)) (cell N (61 + i) (lfT (fAll n b cols rows pile L)) G)) := by
  intro n
  induction n with
  | zero =>
    intro k cols rows pile b L h ho k1 k2 k3 l1 l2 l3 l4 g
    rw [L_She_fold_17 hW, show fAll 0 b cols rows pile L = L by cases b <;> rfl, j_id h ho]
    simp (disch := omega) only [↓reduceIte, S0, S1, J_lt, J_le, J_eq, J_ldI, J_ldI3, J_ldB, J_ldL, J_ldR, J_stI, J_stB, J_stL, J_dv, j_gne, C0, CM, CP, CR, CJ, CS, CL, and_self, and_true, true_and, and_false, false_and, or_true, true_or, or_false, false_or, not_true_eq_false, not_false_eq_true, Option.map_some, J_ltT, J_ltF, J_leT, J_leF, J_eqT, J_eqF, J_ntT, J_ntF, E_She_fold hW]
  | succ n ih =>
    intro k cols rows pile b L h ho k1 k2 k3 l1 l2 l3 l4 g
    rw [L_She_fold_17 hW]
    cases b with
    | true =>
      obtain ⟨g1, g2⟩ := g
      obtain ⟨a1, a2, a3⟩ := fR_rng (cols := cols) (pile := pile) l1 g1
      have r1 := p_foldR hW hi (h := h) (G := G) (c := L.1) (r := L.2.1) (a := L.2.2.1) (u := L.2.2.2.1) (t := L.2.2.2.2) ho (cols := cols) (pile := pile) (by omega) (by omega)
      have ih1 := ih (k + 1) (cols / 2) rows (pile * 2) false (fR cols pile L) (xset h (N + (61 + i)) (cell N (61 + i) (lfT (fR cols pile L)) G)) (j_get _ _ _) (by omega) (by omega) (by simp at k3 ⊢; omega) ⟨a1, a2⟩ (by rw [a3]; exact l2) (by omega) l4 g2
      rw [j_ss] at ih1
      have k3' : k % 2 = 1 := k3
      simp (disch := omega) only [↓reduceIte, S0, S1, J_lt, J_le, J_eq, J_ldI, J_ldI3, J_ldB, J_ldL, J_ldR, J_stI, J_stB, J_stL, J_dv, j_gne, C0, CM, CP, CR, CJ, CS, CL, and_self, and_true, true_and, and_false, false_and, or_true, true_or, or_false, false_or, not_true_eq_false, not_false_eq_true, Option.map_some, J_ltT, J_ltF, J_leT, J_leF, J_eqT, J_eqF, J_ntT, J_ntF, E_She_fold hW, J_div, ho, r1, ih1]
      rfl
    | false =>
      obtain ⟨g1, g2⟩ := g
      obtain ⟨a1, a2, a3⟩ := fL_rng (rows := rows) (pile := pile) l2 g1
      have r1 := p_foldL hW hi (h := h) (G := G) (c := L.1) (r := L.2.1) (a := L.2.2.1) (u := L.2.2.2.1) (t := L.2.2.2.2) ho (rows := rows) (pile := pile) (by omega) (by omega)
      have ih1 := ih (k + 1) cols (rows / 2) (pile * 2) true (fL rows pile L) (xset h (N + (61 + i)) (cell N (61 + i) (lfT (fL rows pile L)) G)) (j_get _ _ _) (by omega) (by omega) (by simp at k3 ⊢; omega) (by rw [a3]; exact l1) ⟨a1, a2⟩ l3 (by omega) g2
      rw [j_ss] at ih1
      have k3' : k % 2 = 0 := k3
      simp (disch := omega) only [↓reduceIte, S0, S1, J_lt, J_le, J_eq, J_ldI, J_ldI3, J_ldB, J_ldL, J_ldR, J_stI, J_stB, J_stL, J_dv, j_gne, C0, CM, CP, CR, CJ, CS, CL, and_self, and_true, true_and, and_false, false_and, or_true, true_or, or_false, false_or, not_true_eq_false, not_false_eq_true, Option.map_some, J_ltT, J_ltF, J_leT, J_leF, J_eqT, J_eqF, J_ntT, J_ntF, E_She_fold hW, J_div, ho, r1, ih1]
      rfl
/-- f folds: how wide, how high -/
theorem good_f : ∀ f : Nat, 1 ≤ f → f ≤ 4 → good f true (colsOf f) (2 ^ f / colsOf f) ∧ (colsOf f = 2 ∨ colsOf f = 4) ∧ (1 ≤ (2 : Int) ^ f / colsOf f ∧ (2 : Int) ^ f / colsOf f ≤ 4) ∧ ((2 : Int) ^ f / colsOf f) * colsOf f = 2 ^ f ∧ (2 : Int) ^ f ≤ 16 := by
  intro f h1 h2
  have : f = 1 ∨ f = 2 ∨ f = 3 ∨ f = 4 := by omega
  rcases this with rfl | rfl | rfl | rfl
  · exact ⟨⟨Or.inl rfl, trivial⟩, Or.inl rfl, ⟨by decide, by decide⟩, by decide, by decide⟩
  · exact ⟨⟨Or.inl rfl, Or.inl rfl, trivial⟩, Or.inl rfl, ⟨by decide, by decide⟩, by decide, by decide⟩
  · exact ⟨⟨Or.inr rfl, Or.inl rfl, Or.inl rfl, trivial⟩, Or.inr rfl, ⟨by decide, by decide⟩, by decide, by decide⟩
  · exact ⟨⟨Or.inr rfl, Or.inr rfl, Or.inl rfl, Or.inl rfl, trivial⟩, Or.inr rfl, ⟨by decide, by decide⟩, by decide, by decide⟩
theorem p_fold (hW : xFix V W) (hi : i < 16) {f : Nat} (h1 : 1 ≤ f) (h2 : f ≤ 4) {FS : Nat → Int} {GS : Nat → Int64} (hs : h.1 (N + 59) = some (cell N 59 FS GS)) (hl : FS 3 = 2 ^ f) (ho : h.1 (N + (61 + i)) = some (cell N (61 + i) (lf c r 0 0 0) G)) (hc : 0 ≤ c ∧ c < colsOf f) (hr : 0 ≤ r ∧ r < 2 ^ f / colsOf f) :
    W m_She_fold (0, [some (.ref (N + 59)), some (.ref (N + (61 + i))), some (.int (Int32.ofInt f)), some (.int (Int32.ofInt (colsOf f))), none, none, none, none], []) h = some (.inl none, xset h (N + (61 + i)) (cell N (61 + i) (lfT (lv f c r)) G)) := by
  obtain ⟨g1, g2, g3, g4, g5⟩ := good_f f h1 h2
  have r1 := p_foldLoop hW hi (N := N) (G := G) (f := f) (ac := colsOf f) (by omega) f 1 (colsOf f) (2 ^ f / colsOf f) 1 true (c, r, 0, 0, 0) h ho (by omega) (by omega) rfl hc hr (by omega) (by omega) g1
  have g6 : 0 ≤ (2 : Int) ^ f := by have : 1 ≤ (2 : Int) ^ f / colsOf f * colsOf f := by rcases g2 with e | e <;> (rw [e] at g3 ⊢; omega)
                                    omega
  generalize hcf : colsOf f = cf at *
  generalize hpf : (2 : Int) ^ f = pf at *
  simp (disch := omega) only [↓reduceIte, S0, S1, J_lt, J_le, J_eq, J_ldI, J_ldI3, J_ldB, J_ldL, J_ldR, J_stI, J_stB, J_stL, J_dv, j_gne, C0, CM, CP, CR, CJ, CS, CL, and_self, and_true, true_and, and_false, false_and, or_true, true_or, or_false, false_or, not_true_eq_false, not_false_eq_true, Option.map_some, J_ltT, J_ltF, J_leT, J_leF, J_eqT, J_eqF, J_ntT, J_ntF, E_She_fold hW, hs, hl, J_div, r1]
  unfold lv
  rw [hcf, hpf]
end SL
