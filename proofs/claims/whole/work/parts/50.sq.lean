section SQ
variable {V : Nat → Value} {W : xWt} {N : Nat} {T : Nat → Nat → Int64}
def imp78 (F : Nat → Int) (a f y : Int) : Nat → Int := jup (jup (jup (jup (jup F 0 0) 22 f) 24 y) 23 (2 ^ f.toNat)) 21 (a / (2 * 2 ^ f.toNat))
theorem q_impose (hW : xFix V W) {a f y : Int} (ha : j32 a) (hf : j32 f) (hy : j32 y) {h : xH} {S : Nat → Nat → Int} (H : HP N h S T) :
    if ((1 ≤ f ∧ f ≤ 4) ∧ (0 ≤ y ∧ y ≤ 1000)) ∧ (1 ≤ a ∧ a ≤ 64) ∧ a % (2 * 2 ^ f.toNat) = 0 then ∃ h' S', W m_Mod_impose (0, [some (.ref (N + 78)), some (.int (Int32.ofInt a)), some (.int (Int32.ofInt f)), some (.int (Int32.ofInt y)), none, none, none, none, none], []) h = some (.inl (some (jI (a / (2 * 2 ^ f.toNat)))), h') ∧ HP N h' S' T ∧ h'.2 = h.2 ∧ (∀ k, k ≠ 78 → (k < 95 ∨ 100 < k) → S' k = S k) ∧ S' 78 = imp78 (S 78) a f y ∧ S' 95 = sft (abv f.toNat) (2 ^ f.toNat) 0 (S 95) ∧ (∀ s : Nat, s < 2 ^ f.toNat → PW S' s (lv f.toNat (s % colsOf f.toNat) (s / colsOf f.toNat)))
    else W m_Mod_impose (0, [some (.ref (N + 78)), some (.int (Int32.ofInt a)), some (.int (Int32.ofInt f)), some (.int (Int32.ofInt y)), none, none, none, none, none], []) h = some (.inl (some (jI 0)), hth N h S T 1) := by
  by_cases c1 : (1 ≤ f ∧ f ≤ 4) ∧ (0 ≤ y ∧ y ≤ 1000)
  · have ef : ((f.toNat : Nat) : Int) = f := by omega
    have sh := j_shl2 f.toNat (by omega)
    have sh1 := j_shl1 f.toNat (by omega)
    rw [ef] at sh sh1
    obtain ⟨g1, g2, g3, g4, g5⟩ := good_f f.toNat (by omega) (by omega)
    obtain ⟨ab, -⟩ := abv_all (f := f.toNat) (by omega) (by omega)
    have dp := deep_f f.toNat (by omega) (by omega)
    have p1 : 2 ≤ (2 : Int) ^ f.toNat := by rcases g2 with e | e <;> (rw [e] at g3 g4; omega)
    have pn : ((2 ^ f.toNat : Nat) : Int) = 2 ^ f.toNat := by simp
    by_cases c2 : 1 ≤ a ∧ a ≤ 64
    · have em : a - a / (2 * 2 ^ f.toNat) * (2 * 2 ^ f.toNat) = a % (2 * 2 ^ f.toNat) := by rw [Int.emod_def, Int.mul_comm (a / _)]
      have hm := Int.emod_nonneg a (show (2 * 2 ^ f.toNat : Int) ≠ 0 by omega)
      have hm2 := Int.emod_lt_of_pos a (show (0 : Int) < 2 * 2 ^ f.toNat by omega)
      by_cases c3 : a % (2 * 2 ^ f.toNat) = 0
      · rw [if_pos ⟨c1, c2, c3⟩]
        have Ha := H.put (k := 78) (by omega) (imp78 (S 78) a f y) (e := cell N 78 (imp78 (S 78) a f y) (T 78)) rfl
        have l16 : (2 ^ f.toNat : Nat) ≤ 16 := by omega
        have hcp : 1 ≤ colsOf f.toNat ∧ colsOf f.toNat ≤ 4 := by omega
        obtain ⟨hb, Sb, b1, b2, b3, b4, b5, b6⟩ := q_laid hW (N := N) (T := T) (a := a) (f := f) (y := y) (ea := 2 * 2 ^ f.toNat) (cols := colsOf f.toNat) (rows := 2 ^ f.toNat / colsOf f.toNat) hcp l16 (2 ^ f.toNat) 0 _ _ Ha (by rw [sup_same, pn]; rfl) (by omega)
        have o78 : oth 78 := ⟨by decide, by decide, by decide, by decide, by decide⟩
        have o95 : oth 95 := ⟨by decide, by decide, by decide, by decide, by decide⟩
        have rg : ∀ s : Nat, s < 2 ^ f.toNat → (0 ≤ (s : Int) % colsOf f.toNat ∧ (s : Int) % colsOf f.toNat < colsOf f.toNat) ∧ (0 ≤ (s : Int) / colsOf f.toNat ∧ (s : Int) / colsOf f.toNat < 2 ^ f.toNat / colsOf f.toNat) := fun s hs => by
          rcases g2 with e | e <;> (rw [e] at g4 ⊢; omega)
        obtain ⟨hc, Sc, x1, x2, x3, d1, d2, d3, d4, d5⟩ := q_folds hW (N := N) (T := T) (a := a) (f := f) (y := y) (ea := 2 * 2 ^ f.toNat) (by omega) l16 f.toNat 0 (colsOf f.toNat) (2 ^ f.toNat / colsOf f.toNat) 1 true (fun s => ((s : Int) % colsOf f.toNat, (s : Int) / colsOf f.toNat, 0, 0, 0)) hb Sb none b2 (by rw [b4 78 o78, sup_same, pn]; rfl) (fun s hs => b6 s (by omega) hs) (by omega) (by omega) rfl rg (by omega) (by omega) (by omega) (by omega) g1 dp
        have c78 : Sc 78 = imp78 (S 78) a f y := by rw [d4 78 o78, b4 78 o78, sup_same]
        obtain ⟨hd, Sd, e1, e2, e3, e4, e5⟩ := q_slots hW (N := N) (T := T) (a := a) (f := f) (y := y) (ea := 2 * 2 ^ f.toNat) (c := x1) (r := x2) (u := x3) (d := abv f.toNat) (l := 2 ^ f.toNat) l16 (fun s s0 s1 => by rw [pn] at s1 ⊢; exact ab s s0 s1) (2 ^ f.toNat) 0 hc Sc d2 (by rw [c78, pn]; rfl) (fun s hs => (d5 s hs).2.2.1) (by omega) (by omega)
        refine ⟨hd, Sd, ?_, e2, by rw [e3, d3, b3]; rfl, fun k k1 k2 => ?_, by rw [e4 78 (by decide), c78], ?_, fun s hs => ?_⟩
        · rw [c78] at e1
          have v21 : imp78 (S 78) a f y 21 = a / (2 * 2 ^ f.toNat) := rfl
          rw [v21] at e1
          rw [show ((0 : Nat) : Int) = 0 from rfl, pn] at b1
          have dv : 0 ≤ a / (2 * 2 ^ f.toNat) ∧ a / (2 * 2 ^ f.toNat) ≤ 64 := ⟨Int.ediv_nonneg (by omega) (by omega), Int.le_trans (Int.ediv_le_self _ (by omega)) (by omega)⟩
          clear g4 dp d5 b6 rg ab
          unfold imp78 at b1
          by_cases hf3 : 3 ≤ f
          · have ec : colsOf f.toNat = 4 := by unfold colsOf; rw [if_neg (by omega)]
            rw [ec] at b1 d1 g3
            generalize (2 : Int) ^ f.toNat = pf at *
            simp (disch := omega) only [↓reduceIte, S0, S1, J_lt, J_le, J_eq, J_ldI, J_ldI3, J_ldB, J_ldL, J_ldR, J_stI, J_stB, J_stL, J_dv, j_gne, C0, CM, CP, CR, CJ, CS, CL, and_self, and_true, true_and, and_false, false_and, or_true, true_or, or_false, false_or, not_true_eq_false, not_false_eq_true, Option.map_some, J_ltT, J_ltF, J_leT, J_leF, J_eqT, J_eqF, J_ntT, J_ntF, E_Mod_impose hW, E_Mod_impose_p1 hW, q_within hW, H.get, sh, sh1, J_div, em, c3, b1, d1, e1, jup_same, jup_ne]
          · have ec : colsOf f.toNat = 2 := by unfold colsOf; rw [if_pos (by omega)]
            rw [ec] at b1 d1 g3
            generalize (2 : Int) ^ f.toNat = pf at *
            simp (disch := omega) only [↓reduceIte, S0, S1, J_lt, J_le, J_eq, J_ldI, J_ldI3, J_ldB, J_ldL, J_ldR, J_stI, J_stB, J_stL, J_dv, j_gne, C0, CM, CP, CR, CJ, CS, CL, and_self, and_true, true_and, and_false, false_and, or_true, true_or, or_false, false_or, not_true_eq_false, not_false_eq_true, Option.map_some, J_ltT, J_ltF, J_leT, J_leF, J_eqT, J_eqF, J_ntT, J_ntF, E_Mod_impose hW, E_Mod_impose_p1 hW, q_within hW, H.get, sh, sh1, J_div, em, c3, b1, d1, e1, jup_same, jup_ne]
        · have ok : oth k := ⟨by omega, by omega, by omega, by omega, by omega⟩
          rw [e4 k (by omega), d4 k ok, b4 k ok, sup_ne _ _ k1]
        · rw [e5, d4 95 o95, b4 95 o95, sup_ne _ _ (by decide)]
        · have := d5 s hs
          unfold PW at *
          rw [e4 98 (by decide), e4 99 (by decide), e4 100 (by decide), e4 96 (by decide), e4 97 (by decide)]
          exact this
      · rw [if_neg (fun q => c3 q.2.2)]
        clear g4 dp ab
        generalize (2 : Int) ^ f.toNat = pf at *
        simp (disch := omega) only [↓reduceIte, S0, S1, J_lt, J_le, J_eq, J_ldI, J_ldI3, J_ldB, J_ldL, J_ldR, J_stI, J_stB, J_stL, J_dv, j_gne, C0, CM, CP, CR, CJ, CS, CL, and_self, and_true, true_and, and_false, false_and, or_true, true_or, or_false, false_or, not_true_eq_false, not_false_eq_true, Option.map_some, J_ltT, J_ltF, J_leT, J_leF, J_eqT, J_eqF, J_ntT, J_ntF, E_Mod_impose hW, q_within hW, H.get, sh, J_div, em, c3, E_Mod_fail hW, j_ss, jup_jup]
    · rw [if_neg (fun q => c2 q.2.1)]
      simp (disch := omega) only [↓reduceIte, S0, S1, J_lt, J_le, J_eq, J_ldI, J_ldI3, J_ldB, J_ldL, J_ldR, J_stI, J_stB, J_stL, J_dv, j_gne, C0, CM, CP, CR, CJ, CS, CL, and_self, and_true, true_and, and_false, false_and, or_true, true_or, or_false, false_or, not_true_eq_false, not_false_eq_true, Option.map_some, J_ltT, J_ltF, J_leT, J_leF, J_eqT, J_eqF, J_ntT, J_ntF, E_Mod_impose hW, q_within hW, H.get, c2, E_Mod_fail hW, j_ss, jup_jup]
  · rw [if_neg (fun q => c1 q.1)]
    by_cases c4 : 1 ≤ f ∧ f ≤ 4
    · simp (disch := omega) only [↓reduceIte, S0, S1, J_lt, J_le, J_eq, J_ldI, J_ldI3, J_ldB, J_ldL, J_ldR, J_stI, J_stB, J_stL, J_dv, j_gne, C0, CM, CP, CR, CJ, CS, CL, and_self, and_true, true_and, and_false, false_and, or_true, true_or, or_false, false_or, not_true_eq_false, not_false_eq_true, Option.map_some, E_Mod_impose hW, q_within hW, c4, show ¬ (0 ≤ y ∧ y ≤ 1000) from fun q => c1 ⟨c4, q⟩, H.get, E_Mod_fail hW, j_ss, jup_jup]
    · simp (disch := omega) only [↓reduceIte, S0, S1, J_lt, J_le, J_eq, J_ldI, J_ldI3, J_ldB, J_ldL, J_ldR, J_stI, J_stB, J_stL, J_dv, j_gne, C0, CM, CP, CR, CJ, CS, CL, and_self, and_true, true_and, and_false, false_and, or_true, true_or, or_false, false_or, not_true_eq_false, not_false_eq_true, Option.map_some, E_Mod_impose hW, q_within hW, c4, H.get, E_Mod_fail hW, j_ss, jup_jup]
end SQ
