def abv (f : Nat) (s : Int) : Int := (lv f (s % colsOf f) (s / colsOf f)).2.2.1
/-- which slot lies how deep -/
def sft (d : Int → Int) : Nat → Int → (Nat → Int) → Nat → Int
  | 0, _, F => F
  | n + 1, k, F => sft d n (k + 1) (jup F (d k).toNat k)
theorem sft_congr {d d' : Int → Int} : ∀ (n : Nat) (k : Int) (F : Nat → Int), (∀ s, k ≤ s → s < k + n → d s = d' s) → sft d n k F = sft d' n k F
  | 0, _, _, _ => rfl
  | n + 1, k, F, h => by
    show sft d n (k + 1) (jup F (d k).toNat k) = sft d' n (k + 1) (jup F (d' k).toNat k)
    rw [h k (by omega) (by omega), sft_congr n (k + 1) _ (fun s a b => h s (by omega) (by omega))]
theorem sft_free {d : Int → Int} : ∀ (n : Nat) (k : Int) (F F' : Nat → Int) (j : Nat), (F j = F' j ∨ ∃ s, k ≤ s ∧ s < k + n ∧ (d s).toNat = j) → sft d n k F j = sft d n k F' j
  | 0, k, F, F', j, h => by
    rcases h with h | ⟨s, a, b, _⟩
    · exact h
    · omega
  | n + 1, k, F, F', j, h => by
    refine sft_free n (k + 1) _ _ j ?_
    by_cases e : (d k).toNat = j
    · left; rw [e, jup_same, jup_same]
    · rcases h with h | ⟨s, a, b, hs⟩
      · left; rw [jup_ne _ _ (Ne.symm e), jup_ne _ _ (Ne.symm e)]; exact h
      · right; exact ⟨s, by have : s ≠ k := fun z => e (z ▸ hs); omega, by omega, hs⟩
theorem sft_rng {d : Int → Int} {m : Int} : ∀ (n : Nat) (k : Int) (F : Nat → Int) (j : Nat), 0 ≤ k → k + n ≤ m → ((0 ≤ F j ∧ F j < m) ∨ ∃ s, k ≤ s ∧ s < k + n ∧ (d s).toNat = j) → 0 ≤ sft d n k F j ∧ sft d n k F j < m
  | 0, k, F, j, _, _, h => by
    rcases h with h | ⟨s, a, b, _⟩
    · exact h
    · omega
  | n + 1, k, F, j, h0, h1, h => by
    refine sft_rng n (k + 1) _ j (by omega) (by omega) ?_
    by_cases e : (d k).toNat = j
    · left; rw [e, jup_same]; omega
    · rcases h with h | ⟨s, a, b, hs⟩
      · left; rw [jup_ne _ _ (Ne.symm e)]; exact h
      · right; exact ⟨s, by have : s ≠ k := fun z => e (z ▸ hs); omega, by omega, hs⟩
theorem abv_all0 : ∀ f : Nat, f < 5 → 1 ≤ f → (∀ s : Nat, s < 2 ^ f → 0 ≤ abv f (s : Int) ∧ abv f (s : Int) < ((2 ^ f : Nat) : Int)) ∧ ∀ j : Nat, j < 2 ^ f → ((List.range (2 ^ f)).any fun s => decide ((abv f ((s : Nat) : Int)).toNat = j)) = true := by decide +kernel
theorem abv_all {f : Nat} (h1 : 1 ≤ f) (h2 : f ≤ 4) : (∀ s : Int, 0 ≤ s → s < 2 ^ f → 0 ≤ abv f s ∧ abv f s < 2 ^ f) ∧ ∀ j : Nat, j < 2 ^ f → ∃ s : Int, 0 ≤ s ∧ s < 0 + ((2 ^ f : Nat) : Int) ∧ (abv f s).toNat = j := by
  obtain ⟨a1, a2⟩ := abv_all0 f (by omega) h1
  have e : ((2 ^ f : Nat) : Int) = 2 ^ f := by simp
  refine ⟨fun s s0 s1 => ?_, fun j hj => ?_⟩
  · have := a1 s.toNat (by omega)
    rw [show ((s.toNat : Nat) : Int) = s by omega, e] at this
    exact this
  · obtain ⟨s, b1, b2⟩ := List.any_eq_true.mp (a2 j hj)
    exact ⟨s, by omega, by have := List.mem_range.mp b1; omega, of_decide_eq_true b2⟩
theorem j_shl1 : ∀ f : Nat, f < 5 → (Int32.ofInt 1 <<< (Int32.ofInt (f : Int) &&& 31)) = Int32.ofInt (2 ^ f) := by decide +kernel
theorem j_shl2 : ∀ f : Nat, f < 5 → (Int32.ofInt 2 <<< (Int32.ofInt (f : Int) &&& 31)) = Int32.ofInt (2 * 2 ^ f) := by decide +kernel
section SM
variable {V : Nat → Value} {W : xWt} {N : Nat} {T : Nat → Nat → Int64}
theorem p_layLoop (hW : xFix V W) {f : Nat} (h1 : 1 ≤ f) (h2 : f ≤ 4) {x y : Int} : ∀ (n : Nat) (k : Int) (h : xH) (S : Nat → Nat → Int) (u : Option Value), HP N h S T → S 59 3 = 2 ^ f → 0 ≤ k → k + n = 2 ^ f →
    ∃ h' S', W m_She_lay (32, [some (.ref (N + 59)), some (.int (Int32.ofInt x)), some (.int (Int32.ofInt f)), some (.int (Int32.ofInt y)), some (.int (Int32.ofInt (colsOf f))), some (.int (Int32.ofInt k)), u], []) h = some (.inl none, h') ∧ HP N h' S' T ∧ h'.2 = h.2 ∧ (∀ q, (q < 61 ∨ 77 < q) → S' q = S q) ∧ S' 77 = sft (abv f) n k (S 77) ∧ (∀ s : Nat, k ≤ s → (s : Int) < 2 ^ f → S' (61 + s) = lfT (lv f (s % colsOf f) (s / colsOf f))) ∧ (∀ s : Nat, (s : Int) < k → S' (61 + s) = S (61 + s)) := by
  obtain ⟨g1, g2, g3, g4, g5⟩ := good_f f h1 h2
  obtain ⟨ab, -⟩ := abv_all h1 h2
  intro n
  induction n with
  | zero =>
    intro k h S u H hs k0 k1
    refine ⟨h, S, ?_, H, rfl, fun _ _ => rfl, rfl, fun s a b => by omega, fun _ _ => rfl⟩
    rw [L_She_lay_32 hW]
    simp (disch := omega) only [↓reduceIte, S0, S1, J_lt, J_le, J_eq, J_ldI, J_ldI3, J_ldB, J_ldL, J_ldR, J_stI, J_stB, J_stL, J_dv, j_gne, C0, CM, CP, CR, CJ, CS, CL, and_self, and_true, true_and, and_false, false_and, or_true, true_or, or_false, false_or, not_true_eq_false, not_false_eq_true, Option.map_some, J_ltT, J_ltF, J_leT, J_leF, J_eqT, J_eqF, J_ntT, J_ntF, E_She_lay hW, H.get, hs]
  | succ n ih =>
    intro k h S u H hs k0 k1
    have hk : k < 2 ^ f := by omega
    have ek : ((k.toNat : Nat) : Int) = k := by omega
    have hi : k.toNat < 16 := by omega
    have hc : 0 ≤ k % colsOf f ∧ k % colsOf f < colsOf f := by rcases g2 with e | e <;> (rw [e]; omega)
    have hr : 0 ≤ k / colsOf f ∧ k / colsOf f < 2 ^ f / colsOf f := by rcases g2 with e | e <;> (rw [e] at g4 ⊢; omega)
    have hab := ab k k0 hk
    have H1 := H.put (k := 61 + k.toNat) (by omega) (lf (k % colsOf f) (k / colsOf f) 0 0 0) (e := cell N (61 + k.toNat) (lf (k % colsOf f) (k / colsOf f) 0 0 0) (T (61 + k.toNat))) rfl
    have H2 := H.put (k := 61 + k.toNat) (by omega) (lfT (lv f (k % colsOf f) (k / colsOf f))) (e := cell N (61 + k.toNat) (lfT (lv f (k % colsOf f) (k / colsOf f))) (T (61 + k.toNat))) rfl
    have H3 := H2.put (k := 77) (by omega) (jup (S 77) (abv f k).toNat k) (e := jA 0 16 (jup (S 77) (abv f k).toNat k)) rfl
    have s1 := p_start hW hi (N := N) (h := h) (F := S (61 + k.toNat)) (G := T (61 + k.toNat)) (H.get (by omega)) (x := k % colsOf f) (y := k / colsOf f)
    have s2 := p_fold hW hi (N := N) (h := xset h (N + (61 + k.toNat)) (cell N (61 + k.toNat) (lf (k % colsOf f) (k / colsOf f) 0 0 0) (T (61 + k.toNat)))) (G := T (61 + k.toNat)) h1 h2 (FS := S 59) (GS := T 59) (by rw [j_gne _ _ (by omega)]; exact H.get (by omega)) hs (j_get _ _ _) hc hr
    rw [j_ss] at s2
    have s3 : W m_Leaf_leavesAbove (0, [some (.ref (N + (61 + k.toNat)))], []) (xset h (N + (61 + k.toNat)) (cell N (61 + k.toNat) (lfT (lv f (k % colsOf f) (k / colsOf f))) (T (61 + k.toNat)))) = some (.inl (some (jI (abv f k))), xset h (N + (61 + k.toNat)) (cell N (61 + k.toNat) (lfT (lv f (k % colsOf f) (k / colsOf f))) (T (61 + k.toNat)))) := by
      simp (disch := omega) only [↓reduceIte, S0, S1, J_lt, J_le, J_eq, J_ldI, J_ldI3, J_ldB, J_ldL, J_ldR, J_stI, J_stB, J_stL, J_dv, j_gne, C0, CM, CP, CR, CJ, CS, CL, and_self, and_true, true_and, and_false, false_and, or_true, true_or, or_false, false_or, not_true_eq_false, not_false_eq_true, Option.map_some, E_Leaf_leavesAbove hW]
      rfl
    obtain ⟨h', S', r1, r2, r3, r4, r5, r6, r7⟩ := ih (k + 1) _ _ (some (.ref (N + (61 + k.toNat)))) H3 (by rw [sup_ne _ _ (by decide), sup_ne _ _ (by omega)]; exact hs) (by omega) (by omega)
    refine ⟨h', S', ?_, r2, by rw [r3]; rfl, fun q hq => by rw [r4 q hq, sup_ne _ _ (by omega), sup_ne _ _ (by omega)], ?_, fun s a b => ?_, fun s a => ?_⟩
    · rw [L_She_lay_32 hW]
      have em : k - k / colsOf f * colsOf f = k % colsOf f := by rcases g2 with e | e <;> (rw [e]; omega)
      have hcp : 0 < colsOf f ∧ colsOf f ≤ 4 := by omega
      clear g1 g4
      generalize hcf : colsOf f = cf at *
      simp (disch := omega) only [↓reduceIte, S0, S1, J_lt, J_le, J_eq, J_ldI, J_ldI3, J_ldB, J_ldL, J_ldR, J_stI, J_stB, J_stL, J_dv, j_gne, C0, CM, CP, CR, CJ, CS, CL, and_self, and_true, true_and, and_false, false_and, or_true, true_or, or_false, false_or, not_true_eq_false, not_false_eq_true, Option.map_some, J_ltT, J_ltF, J_leT, J_leF, J_eqT, J_eqF, J_ntT, J_ntF, E_She_lay hW, H.get, hs, J_div, em, s1, s2, s3, r1]
    · rw [r5, sup_same]; rfl
    · by_cases z : k + 1 ≤ (s : Int)
      · exact r6 s z b
      · have es : s = k.toNat := by omega
        rw [r7 s (by omega), es, sup_ne _ _ (by omega), sup_same, ek]
    · rw [r7 s (by omega), sup_ne _ _ (by omega), sup_ne _ _ (by omega)]
theorem p_lay (hW : xFix V W) {f : Nat} (h1 : 1 ≤ f) (h2 : f ≤ 4) {x y : Int} {h : xH} {S : Nat → Nat → Int} (H : HP N h S T) :
    ∃ h' S', W m_She_lay (0, [some (.ref (N + 59)), some (.int (Int32.ofInt x)), some (.int (Int32.ofInt f)), some (.int (Int32.ofInt y)), none, none, none], []) h = some (.inl none, h') ∧ HP N h' S' T ∧ h'.2 = h.2 ∧ (∀ q, q ≠ 59 → (q < 61 ∨ 77 < q) → S' q = S q) ∧ S' 59 = jup (jup (jup (S 59) 2 x) 3 (2 ^ f)) 4 y ∧ S' 77 = sft (abv f) (2 ^ f) 0 (S 77) ∧ (∀ s : Nat, (s : Int) < 2 ^ f → S' (61 + s) = lfT (lv f (s % colsOf f) (s / colsOf f))) := by
  have H1 := H.put (k := 59) (by omega) (jup (jup (jup (S 59) 2 x) 3 (2 ^ f)) 4 y) (e := cell N 59 (jup (jup (jup (S 59) 2 x) 3 (2 ^ f)) 4 y) (T 59)) rfl
  have e : ((2 ^ f : Nat) : Int) = 2 ^ f := by simp
  obtain ⟨h', S', r1, r2, r3, r4, r5, r6, r7⟩ := p_layLoop hW h1 h2 (x := x) (y := y) (2 ^ f) 0 _ _ none H1 (by rw [sup_same]; rfl) (by omega) (by omega)
  refine ⟨h', S', ?_, r2, by rw [r3]; rfl, fun q a b => by rw [r4 q b, sup_ne _ _ a], by rw [r4 59 (by omega), sup_same], by rw [r5, sup_ne _ _ (by decide)], fun s hs => r6 s (by omega) hs⟩
  by_cases hf : 3 ≤ (f : Int)
  · have ec : colsOf f = 4 := by unfold colsOf; rw [if_neg (by omega)]
    rw [ec] at r1
    simp (disch := omega) only [↓reduceIte, S0, S1, J_lt, J_le, J_eq, J_ldI, J_ldI3, J_ldB, J_ldL, J_ldR, J_stI, J_stB, J_stL, J_dv, j_gne, C0, CM, CP, CR, CJ, CS, CL, and_self, and_true, true_and, and_false, false_and, or_true, true_or, or_false, false_or, not_true_eq_false, not_false_eq_true, Option.map_some, J_ltT, J_ltF, J_leT, J_leF, J_eqT, J_eqF, J_ntT, J_ntF, E_She_lay hW, H.get, j_shl1 f (by omega), r1]
  · have ec : colsOf f = 2 := by unfold colsOf; rw [if_pos (by omega)]
    rw [ec] at r1
    simp (disch := omega) only [↓reduceIte, S0, S1, J_lt, J_le, J_eq, J_ldI, J_ldI3, J_ldB, J_ldL, J_ldR, J_stI, J_stB, J_stL, J_dv, j_gne, C0, CM, CP, CR, CJ, CS, CL, and_self, and_true, true_and, and_false, false_and, or_true, true_or, or_false, false_or, not_true_eq_false, not_false_eq_true, Option.map_some, J_ltT, J_ltF, J_leT, J_leF, J_eqT, J_eqF, J_ntT, J_ntF, E_She_lay hW, H.get, j_shl1 f (by omega), r1]
theorem p_impose (hW : xFix V W) {a f y : Int} (ha : j32 a) (hf : j32 f) (hy : j32 y) {h : xH} {S : Nat → Nat → Int} (H : HP N h S T) :
    if ((1 ≤ f ∧ f ≤ 4) ∧ (0 ≤ y ∧ y ≤ 1000)) ∧ (1 ≤ a ∧ a ≤ 64) ∧ a % (2 * 2 ^ f.toNat) = 0 then ∃ h' S', W m_Room_impose (0, [some (.ref N), some (.int (Int32.ofInt a)), some (.int (Int32.ofInt f)), some (.int (Int32.ofInt y)), none], []) h = some (.inl (some (jI (a / (2 * 2 ^ f.toNat)))), h') ∧ HP N h' S' T ∧ h'.2 = h.2 ∧ (∀ q, q ≠ 59 → (q < 61 ∨ 77 < q) → S' q = S q) ∧ S' 59 = jup (jup (jup (S 59) 2 (a / (2 * 2 ^ f.toNat))) 3 (2 ^ f.toNat)) 4 y ∧ S' 77 = sft (abv f.toNat) (2 ^ f.toNat) 0 (S 77) ∧ (∀ s : Nat, (s : Int) < 2 ^ f.toNat → S' (61 + s) = lfT (lv f.toNat (s % colsOf f.toNat) (s / colsOf f.toNat)))
    else W m_Room_impose (0, [some (.ref N), some (.int (Int32.ofInt a)), some (.int (Int32.ofInt f)), some (.int (Int32.ofInt y)), none], []) h = jX 9 h := by
  by_cases c1 : (1 ≤ f ∧ f ≤ 4) ∧ (0 ≤ y ∧ y ≤ 1000)
  · have ef : ((f.toNat : Nat) : Int) = f := by omega
    have sh := j_shl2 f.toNat (by omega)
    rw [ef] at sh
    have p1 : 2 ≤ (2 : Int) ^ f.toNat ∧ (2 : Int) ^ f.toNat ≤ 16 := by
      have : f.toNat = 1 ∨ f.toNat = 2 ∨ f.toNat = 3 ∨ f.toNat = 4 := by omega
      rcases this with e | e | e | e <;> (rw [e]; decide)
    by_cases c2 : 1 ≤ a ∧ a ≤ 64
    · have em : a - a / (2 * 2 ^ f.toNat) * (2 * 2 ^ f.toNat) = a % (2 * 2 ^ f.toNat) := by rw [Int.emod_def, Int.mul_comm (a / _)]
      have hm := Int.emod_nonneg a (show (2 * 2 ^ f.toNat : Int) ≠ 0 by omega)
      have hm2 := Int.emod_lt_of_pos a (show (0 : Int) < 2 * 2 ^ f.toNat by omega)
      by_cases c3 : a % (2 * 2 ^ f.toNat) = 0
      · rw [if_pos ⟨c1, c2, c3⟩]
        obtain ⟨h', S', r1, r2, r3, r4, r5, r6, r7⟩ := p_lay hW (N := N) (f := f.toNat) (by omega) (by omega) (x := a / (2 * 2 ^ f.toNat)) (y := y) H
        rw [ef] at r1
        refine ⟨h', S', ?_, r2, r3, r4, r5, r6, r7⟩
        have g0 := H.get0
        have k1 : h'.1 (N + 59) = some (cell N 59 (S' 59) (T 59)) := r2.get (by omega)
        have k0 : h'.1 N = some (cell N 0 (S' 0) (T 0)) := r2.get0
        have v2 : S' 59 2 = a / (2 * 2 ^ f.toNat) := by rw [r5]; rfl
        generalize (2 : Int) ^ f.toNat = pf at *
        simp (disch := omega) only [↓reduceIte, S0, S1, J_lt, J_le, J_eq, J_ldI, J_ldI3, J_ldB, J_ldL, J_ldR, J_stI, J_stB, J_stL, J_dv, j_gne, C0, CM, CP, CR, CJ, CS, CL, and_self, and_true, true_and, and_false, false_and, or_true, true_or, or_false, false_or, not_true_eq_false, not_false_eq_true, Option.map_some, J_ltT, J_ltF, J_leT, J_leF, J_eqT, J_eqF, J_ntT, J_ntF, E_Room_impose hW, p_needBetween hW, c1, c2, sh, J_div, em, c3, H.get0, H.get, r1, k0, k1, E_She_sheetCount hW, v2]
      · rw [if_neg (fun q => c3 q.2.2)]
        generalize (2 : Int) ^ f.toNat = pf at *
        simp (disch := omega) only [↓reduceIte, S0, S1, J_lt, J_le, J_eq, J_ldI, J_ldI3, J_ldB, J_ldL, J_ldR, J_stI, J_stB, J_stL, J_dv, j_gne, C0, CM, CP, CR, CJ, CS, CL, and_self, and_true, true_and, and_false, false_and, or_true, true_or, or_false, false_or, not_true_eq_false, not_false_eq_true, Option.map_some, J_ltT, J_ltF, J_leT, J_leF, J_eqT, J_eqF, J_ntT, J_ntF, E_Room_impose hW, p_needBetween hW, c1, c2, sh, J_div, em, c3]
        rfl
    · rw [if_neg (fun q => c2 q.2.1)]
      simp (disch := omega) only [↓reduceIte, S0, S1, J_lt, J_le, J_eq, J_ldI, J_ldI3, J_ldB, J_ldL, J_ldR, J_stI, J_stB, J_stL, J_dv, j_gne, C0, CM, CP, CR, CJ, CS, CL, and_self, and_true, true_and, and_false, false_and, or_true, true_or, or_false, false_or, not_true_eq_false, not_false_eq_true, Option.map_some, E_Room_impose hW, p_needBetween hW, c1, c2, jX_ret X_Room_impose]
  · rw [if_neg (fun q => c1 q.1)]
    by_cases c4 : 1 ≤ f ∧ f ≤ 4
    · simp (disch := omega) only [↓reduceIte, S0, S1, J_lt, J_le, J_eq, J_ldI, J_ldI3, J_ldB, J_ldL, J_ldR, J_stI, J_stB, J_stL, J_dv, j_gne, C0, CM, CP, CR, CJ, CS, CL, and_self, and_true, true_and, and_false, false_and, or_true, true_or, or_false, false_or, not_true_eq_false, not_false_eq_true, Option.map_some, E_Room_impose hW, p_needBetween hW, c4, show ¬ (0 ≤ y ∧ y ≤ 1000) from fun q => c1 ⟨c4, q⟩, jX_ret X_Room_impose]
    · simp (disch := omega) only [↓reduceIte, S0, S1, J_lt, J_le, J_eq, J_ldI, J_ldI3, J_ldB, J_ldL, J_ldR, J_stI, J_stB, J_stL, J_dv, j_gne, C0, CM, CP, CR, CJ, CS, CL, and_self, and_true, true_and, and_false, false_and, or_true, true_or, or_false, false_or, not_true_eq_false, not_false_eq_true, Option.map_some, E_Room_impose hW, p_needBetween hW, c4, jX_ret X_Room_impose]
end SM
