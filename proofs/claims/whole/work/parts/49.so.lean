section SO
variable {V : Nat → Value} {W : xWt} {N : Nat} {T : Nat → Nat → Int64}
theorem q_folds (hW : xFix V W) {a f y ea : Int} (hf : f ≤ 4) {l : Nat} (hl : l ≤ 16) : ∀ (n : Nat) (k cols rows pile : Int) (b : Bool) (L : Nat → Int × Int × Int × Int × Int) (h : xH) (S : Nat → Nat → Int) (u : Option Value), HP N h S T → S 78 23 = l → (∀ s, s < l → PW S s (L s)) → 0 ≤ k → k + n = f → k % 2 = (if b then 0 else 1) → (∀ s, s < l → (0 ≤ (L s).1 ∧ (L s).1 < cols) ∧ (0 ≤ (L s).2.1 ∧ (L s).2.1 < rows)) → cols ≤ 4 → rows ≤ 4 → 0 ≤ cols → 0 ≤ rows → good n b cols rows → deep n b cols rows pile l L = true →
    ∃ h' S' c' r' u', W m_Mod_impose (174, [some (.ref (N + 78)), some (.int (Int32.ofInt a)), some (.int (Int32.ofInt f)), some (.int (Int32.ofInt y)), some (.int (Int32.ofInt ea)), some (.int (Int32.ofInt cols)), some (.int (Int32.ofInt rows)), some (.int (Int32.ofInt k)), u], []) h = W m_Mod_impose (238, [some (.ref (N + 78)), some (.int (Int32.ofInt a)), some (.int (Int32.ofInt f)), some (.int (Int32.ofInt y)), some (.int (Int32.ofInt ea)), some (.int (Int32.ofInt (c'))), some (.int (Int32.ofInt (r'))), some (.int (Int32.ofInt f)), u'], []) h' ∧ HP N h' S' T ∧ h'.2 = h.2 ∧ (∀ k, oth k → S' k = S k) ∧ ∀ s, s < l → PW S' s (fAll n b cols rows pile (L s)) := by
  intro n
  induction n with
  | zero =>
    intro k cols rows pile b L h S u H hS hL k0 k1 k2 hr c4 r4 c0 r0 g d
    have e : k = f := by omega
    refine ⟨h, S, cols, rows, u, ?_, H, rfl, fun _ _ => rfl, fun s hs => by cases b <;> exact hL s hs⟩
    rw [L_Mod_impose_174 hW, e]
    simp (disch := omega) only [↓reduceIte, S0, S1, J_lt, J_le, J_eq, J_ldI, J_ldI3, J_ldB, J_ldL, J_ldR, J_stI, J_stB, J_stL, J_dv, j_gne, C0, CM, CP, CR, CJ, CS, CL, and_self, and_true, true_and, and_false, false_and, or_true, true_or, or_false, false_or, not_true_eq_false, not_false_eq_true, Option.map_some, J_ltT, J_ltF, J_leT, J_leF, J_eqT, J_eqF, J_ntT, J_ntF]
  | succ n ih =>
    intro k cols rows pile b L h S u H hS hL k0 k1 k2 hr c4 r4 c0 r0 g d
    have o78 : oth 78 := ⟨by decide, by decide, by decide, by decide, by decide⟩
    cases b with
    | true =>
      obtain ⟨g1, g2⟩ := g
      simp only [deep, Bool.and_eq_true] at d
      obtain ⟨⟨d1, d2⟩, d3⟩ := d
      have d1 := of_decide_eq_true d1
      have dr : ∀ s, s < l → 0 ≤ S 100 s ∧ S 100 s ≤ 100 := fun s hs => by
        have := of_decide_eq_true (List.all_eq_true.mp d2 s (List.mem_range.mpr hs))
        rw [(hL s hs).2.2.1]
        exact this
      have em : mo (S 100) l 0 0 = pile - 1 := by
        rw [← d1]
        exact mo_congr l 0 0 (fun q _ hq => (hL q (by omega)).2.2.1)
      have m1 := q_most hW H (ac := 1) (z := cols) hl hS dr l 0 0 (by omega) (by omega)
      rw [em] at m1
      obtain ⟨h1, Sa, a1, a2, a3, a4, a5, a6⟩ := q_foldLA hW (N := N) (T := T) (z := cols) (pile := pile) hl (by omega) l 0 h S none H hS (by omega) (Or.inl (fun q hq => by rw [(hL q hq).1]; have := hr q hq; omega))
      have PWn : ∀ s, s < l → PW Sa s (fR cols pile (L s)) := fun s hs => by
        have := a6 s (by omega) hs
        obtain ⟨z1, z2, z3, z4, z5⟩ := hL s hs
        rw [z1, z2, z3, z4, z5] at this
        exact this
      have rg : ∀ s, s < l → (0 ≤ (fR cols pile (L s)).1 ∧ (fR cols pile (L s)).1 < cols / 2) ∧ (0 ≤ (fR cols pile (L s)).2.1 ∧ (fR cols pile (L s)).2.1 < rows) := fun s hs => by
        obtain ⟨w1, w2, w3⟩ := fR_rng (cols := cols) (pile := pile) (hr s hs).1 g1
        exact ⟨⟨w1, w2⟩, by rw [w3]; exact (hr s hs).2⟩
      obtain ⟨h2, Sb, c', r', u', b1, b2, b3, b4, b5⟩ := ih (k + 1) (cols / 2) rows (pile * 2) false (fun s => fR cols pile (L s)) h1 Sa (some (.int (Int32.ofInt 1))) a2 (by rw [a4 78 o78]; exact hS) PWn (by omega) (by omega) (by simp at k2 ⊢; omega) rg (by omega) r4 (by omega) r0 g2 d3
      refine ⟨h2, Sb, c', r', u', ?_, b2, b3.trans a3, fun q hq => (b4 q hq).trans (a4 q hq), b5⟩
      have k2' : k % 2 = 0 := k2
      have fold : W m_Mod_fold (0, [some (.ref (N + 78)), some (.int (Int32.ofInt 1)), some (.int (Int32.ofInt cols)), none, none, none], []) h = some (.inl none, h1) := by
        rw [show ((0 : Nat) : Int) = 0 from rfl] at a1 m1
        rw [← a1, ← m1]
        simp only [E_Mod_fold hW]
      rw [L_Mod_impose_174 hW, ← b1]
      simp (disch := omega) only [↓reduceIte, S0, S1, J_lt, J_le, J_eq, J_ldI, J_ldI3, J_ldB, J_ldL, J_ldR, J_stI, J_stB, J_stL, J_dv, j_gne, C0, CM, CP, CR, CJ, CS, CL, and_self, and_true, true_and, and_false, false_and, or_true, true_or, or_false, false_or, not_true_eq_false, not_false_eq_true, Option.map_some, J_ltT, J_ltF, J_leT, J_leF, J_eqT, J_eqF, J_ntT, J_ntF, E_Mod_impose hW, E_Mod_impose_p1 hW, J_div, H.get, fold]
    | false =>
      obtain ⟨g1, g2⟩ := g
      simp only [deep, Bool.and_eq_true] at d
      obtain ⟨⟨d1, d2⟩, d3⟩ := d
      have d1 := of_decide_eq_true d1
      have dr : ∀ s, s < l → 0 ≤ S 100 s ∧ S 100 s ≤ 100 := fun s hs => by
        have := of_decide_eq_true (List.all_eq_true.mp d2 s (List.mem_range.mpr hs))
        rw [(hL s hs).2.2.1]
        exact this
      have em : mo (S 100) l 0 0 = pile - 1 := by
        rw [← d1]
        exact mo_congr l 0 0 (fun q _ hq => (hL q (by omega)).2.2.1)
      have m1 := q_most hW H (ac := 0) (z := rows) hl hS dr l 0 0 (by omega) (by omega)
      rw [em] at m1
      obtain ⟨h1, Sa, a1, a2, a3, a4, a5, a6⟩ := q_foldLB hW (N := N) (T := T) (z := rows) (pile := pile) hl (by omega) l 0 h S none H hS (by omega) (fun q _ hq => by rw [(hL q hq).2.1]; have := hr q hq; omega)
      have PWn : ∀ s, s < l → PW Sa s (fL rows pile (L s)) := fun s hs => by
        have := a6 s (by omega) hs
        obtain ⟨z1, z2, z3, z4, z5⟩ := hL s hs
        rw [z1, z2, z3, z4, z5] at this
        exact this
      have rg : ∀ s, s < l → (0 ≤ (fL rows pile (L s)).1 ∧ (fL rows pile (L s)).1 < cols) ∧ (0 ≤ (fL rows pile (L s)).2.1 ∧ (fL rows pile (L s)).2.1 < rows / 2) := fun s hs => by
        obtain ⟨w1, w2, w3⟩ := fL_rng (rows := rows) (pile := pile) (hr s hs).2 g1
        exact ⟨by rw [w3]; exact (hr s hs).1, ⟨w1, w2⟩⟩
      obtain ⟨h2, Sb, c', r', u', b1, b2, b3, b4, b5⟩ := ih (k + 1) cols (rows / 2) (pile * 2) true (fun s => fL rows pile (L s)) h1 Sa (some (.int (Int32.ofInt 0))) a2 (by rw [a4 78 o78]; exact hS) PWn (by omega) (by omega) (by simp at k2 ⊢; omega) rg c4 (by omega) c0 (by omega) g2 d3
      refine ⟨h2, Sb, c', r', u', ?_, b2, b3.trans a3, fun q hq => (b4 q hq).trans (a4 q hq), b5⟩
      have k2' : k % 2 = 1 := k2
      have fold : W m_Mod_fold (0, [some (.ref (N + 78)), some (.int (Int32.ofInt 0)), some (.int (Int32.ofInt rows)), none, none, none], []) h = some (.inl none, h1) := by
        rw [show ((0 : Nat) : Int) = 0 from rfl] at a1 m1
        rw [← a1, ← m1]
        simp only [E_Mod_fold hW]
      rw [L_Mod_impose_174 hW, ← b1]
      simp (disch := omega) only [↓reduceIte, S0, S1, J_lt, J_le, J_eq, J_ldI, J_ldI3, J_ldB, J_ldL, J_ldR, J_stI, J_stB, J_stL, J_dv, j_gne, C0, CM, CP, CR, CJ, CS, CL, and_self, and_true, true_and, and_false, false_and, or_true, true_or, or_false, false_or, not_true_eq_false, not_false_eq_true, Option.map_some, J_ltT, J_ltF, J_leT, J_leF, J_eqT, J_eqF, J_ntT, J_ntF, E_Mod_impose hW, E_Mod_impose_p1 hW, J_div, H.get, fold]
theorem q_laid (hW : xFix V W) {a f y ea cols rows : Int} (hcp : 1 ≤ cols ∧ cols ≤ 4) {l : Nat} (hl : l ≤ 16) : ∀ (n s : Nat) (h : xH) (S : Nat → Nat → Int), HP N h S T → S 78 23 = l → s + n = l →
    ∃ h' S', W m_Mod_impose (108, [some (.ref (N + 78)), some (.int (Int32.ofInt a)), some (.int (Int32.ofInt f)), some (.int (Int32.ofInt y)), some (.int (Int32.ofInt ea)), some (.int (Int32.ofInt cols)), some (.int (Int32.ofInt rows)), some (.int (Int32.ofInt s)), none], []) h = W m_Mod_impose (171, [some (.ref (N + 78)), some (.int (Int32.ofInt a)), some (.int (Int32.ofInt f)), some (.int (Int32.ofInt y)), some (.int (Int32.ofInt ea)), some (.int (Int32.ofInt cols)), some (.int (Int32.ofInt rows)), some (.int (Int32.ofInt l)), none], []) h' ∧ HP N h' S' T ∧ h'.2 = h.2 ∧ (∀ k, oth k → S' k = S k) ∧ (∀ q k, (q < s ∨ l ≤ q) → S' k q = S k q) ∧ ∀ q, s ≤ q → q < l → PW S' q ((q : Int) % cols, (q : Int) / cols, 0, 0, 0) := by
  intro n
  induction n with
  | zero =>
    intro s h S H hS hs
    have e : s = l := by omega
    subst e
    refine ⟨h, S, ?_, H, rfl, fun _ _ => rfl, fun _ _ _ => rfl, fun q a b => by omega⟩
    rw [L_Mod_impose_108 hW]
    simp (disch := omega) only [↓reduceIte, S0, S1, J_lt, J_le, J_eq, J_ldI, J_ldI3, J_ldB, J_ldL, J_ldR, J_stI, J_stB, J_stL, J_dv, j_gne, C0, CM, CP, CR, CJ, CS, CL, and_self, and_true, true_and, and_false, false_and, or_true, true_or, or_false, false_or, not_true_eq_false, not_false_eq_true, Option.map_some, J_ltT, J_ltF, J_leT, J_leF, J_eqT, J_eqF, J_ntT, J_ntF, E_Mod_impose hW, H.get, hS]
  | succ n ih =>
    intro s h S H hS hs
    have H1 := H.put (k := 98) (by omega) (jup (S 98) s ((s : Int) % cols)) (e := jA 0 16 (jup (S 98) s ((s : Int) % cols))) rfl
    have H2 := H1.put (k := 99) (by omega) (jup (S 99) s ((s : Int) / cols)) (e := jA 0 16 (jup (S 99) s ((s : Int) / cols))) rfl
    have H3 := H2.put (k := 100) (by omega) (jup (S 100) s 0) (e := jA 0 16 (jup (S 100) s 0)) rfl
    have H4 := H3.put (k := 96) (by omega) (jup (S 96) s 0) (e := jA 0 16 (jup (S 96) s 0)) rfl
    have H5 := H4.put (k := 97) (by omega) (jup (S 97) s 0) (e := jA 0 16 (jup (S 97) s 0)) rfl
    generalize hS5 : sup (sup (sup (sup (sup S 98 (jup (S 98) s ((s : Int) % cols))) 99 (jup (S 99) s ((s : Int) / cols))) 100 (jup (S 100) s 0)) 96 (jup (S 96) s 0)) 97 (jup (S 97) s 0) = S5 at H5
    have o5 : ∀ k, oth k → S5 k = S k := fun k hk => by rw [← hS5, sup_ne _ _ hk.2.1, sup_ne _ _ hk.1, sup_ne _ _ hk.2.2.2.2, sup_ne _ _ hk.2.2.2.1, sup_ne _ _ hk.2.2.1]
    have q5 : ∀ q k, q ≠ s → S5 k q = S k q := fun q k hq => by
      rw [← hS5]
      unfold sup
      repeat' split
      all_goals first | rfl | (next e => rw [jup_ne _ _ hq, e])
    have p5 : PW S5 s ((s : Int) % cols, (s : Int) / cols, 0, 0, 0) := by
      rw [← hS5]
      unfold PW
      simp only [sup, jup_same]
      exact ⟨jup_same _ _ _, jup_same _ _ _, jup_same _ _ _, jup_same _ _ _, jup_same _ _ _⟩
    obtain ⟨h2, S2, b1, b2, b3, b4, b5, b6⟩ := ih (s + 1) _ S5 H5 (by rw [o5 78 ⟨by decide, by decide, by decide, by decide, by decide⟩]; exact hS) (by omega)
    rw [show (((s + 1 : Nat) : Int)) = (s : Int) + 1 by omega] at b1
    refine ⟨h2, S2, ?_, b2, b3.trans rfl, fun k hk => (b4 k hk).trans (o5 k hk), fun q k hq => (b5 q k (by omega)).trans (q5 q k (by omega)), fun q x y => ?_⟩
    · have em : (s : Int) - (s : Int) / cols * cols = (s : Int) % cols := by rw [Int.emod_def, Int.mul_comm]
      rw [L_Mod_impose_108 hW, ← b1]
      simp (disch := omega) only [↓reduceIte, S0, S1, J_lt, J_le, J_eq, J_ldI, J_ldI3, J_ldB, J_ldL, J_ldR, J_stI, J_stB, J_stL, J_dv, j_gne, C0, CM, CP, CR, CJ, CS, CL, and_self, and_true, true_and, and_false, false_and, or_true, true_or, or_false, false_or, not_true_eq_false, not_false_eq_true, Option.map_some, J_ltT, J_ltF, J_leT, J_leF, J_eqT, J_eqF, J_ntT, J_ntF, E_Mod_impose hW, H.get, hS, Int.toNat_natCast, J_div, em]
    · by_cases e : q = s
      · subst e
        unfold PW at *
        rw [b5 q 98 (by omega), b5 q 99 (by omega), b5 q 100 (by omega), b5 q 96 (by omega), b5 q 97 (by omega)]
        exact p5
      · exact b6 q (by omega) y
theorem q_slots (hW : xFix V W) {a f y ea : Int} {c r : Int} {u : Option Value} {d : Int → Int} {l : Nat} (hl : l ≤ 16) (hd : ∀ s : Int, 0 ≤ s → s < l → 0 ≤ d s ∧ d s < l) : ∀ (n : Nat) (k : Int) (h : xH) (S : Nat → Nat → Int), HP N h S T → S 78 23 = l → (∀ s : Nat, s < l → S 100 s = d s) → 0 ≤ k → k + n = l →
    ∃ h' S', W m_Mod_impose (241, [some (.ref (N + 78)), some (.int (Int32.ofInt a)), some (.int (Int32.ofInt f)), some (.int (Int32.ofInt y)), some (.int (Int32.ofInt ea)), some (.int (Int32.ofInt c)), some (.int (Int32.ofInt r)), some (.int (Int32.ofInt k)), u], []) h = some (.inl (some (jI (S 78 21))), h') ∧ HP N h' S' T ∧ h'.2 = h.2 ∧ (∀ k, k ≠ 95 → S' k = S k) ∧ S' 95 = sft d n k (S 95) := by
  intro n
  induction n with
  | zero =>
    intro k h S H hS hd1 k0 k1
    refine ⟨h, S, ?_, H, rfl, fun _ _ => rfl, rfl⟩
    rw [L_Mod_impose_241 hW]
    simp (disch := omega) only [↓reduceIte, S0, S1, J_lt, J_le, J_eq, J_ldI, J_ldI3, J_ldB, J_ldL, J_ldR, J_stI, J_stB, J_stL, J_dv, j_gne, C0, CM, CP, CR, CJ, CS, CL, and_self, and_true, true_and, and_false, false_and, or_true, true_or, or_false, false_or, not_true_eq_false, not_false_eq_true, Option.map_some, J_ltT, J_ltF, J_leT, J_leF, J_eqT, J_eqF, J_ntT, J_ntF, E_Mod_impose_p1 hW, H.get, hS]
  | succ n ih =>
    intro k h S H hS hd1 k0 k1
    have e1 := hd1 k.toNat (by omega)
    rw [show ((k.toNat : Nat) : Int) = k by omega] at e1
    have e2 := hd k k0 (by omega)
    have H1 := H.put (k := 95) (by omega) (jup (S 95) (d k).toNat k) (e := jA 0 16 (jup (S 95) (d k).toNat k)) rfl
    obtain ⟨h', S', r1, r2, r3, r4, r5⟩ := ih (k + 1) _ _ H1 (by rw [sup_ne _ _ (by decide)]; exact hS) (fun s hs => by rw [sup_ne _ _ (by decide)]; exact hd1 s hs) (by omega) (by omega)
    rw [sup_ne _ _ (by decide)] at r1
    rw [sup_same] at r5
    refine ⟨h', S', ?_, r2, r3.trans rfl, fun q hq => by rw [r4 q hq, sup_ne _ _ hq], r5⟩
    rw [L_Mod_impose_241 hW, ← r1]
    simp (disch := omega) only [↓reduceIte, S0, S1, J_lt, J_le, J_eq, J_ldI, J_ldI3, J_ldB, J_ldL, J_ldR, J_stI, J_stB, J_stL, J_dv, j_gne, C0, CM, CP, CR, CJ, CS, CL, and_self, and_true, true_and, and_false, false_and, or_true, true_or, or_false, false_or, not_true_eq_false, not_false_eq_true, Option.map_some, J_ltT, J_ltF, J_leT, J_leF, J_eqT, J_eqF, J_ntT, J_ntF, E_Mod_impose_p1 hW, H.get, hS, e1]
end SO
