/-! the class: screen, rank, dot, share, proof -/
def SCi (S : Nat → Nat → Int) (i : Nat) : Prop := ((-20 ≤ S 88 i ∧ S 88 i ≤ 20) ∧ (-20 ≤ S 89 i ∧ S 89 i ≤ 20) ∧ (0 ≤ S 90 i ∧ S 90 i < 3) ∧ (1 ≤ S 88 i * S 88 i + S 89 i * S 89 i ∧ S 88 i * S 88 i + S 89 i * S 89 i ≤ 400)) ∧ S (35 + 3 * i) 3 = S 88 i * S 88 i + S 89 i * S 89 i ∧ SCR (S 88 i) (S 89 i) (S 90 i) (S (35 + 3 * i) 4) (S (35 + 3 * i) 5) (S (36 + 3 * i)) (S (37 + 3 * i))
def PLC (S : Nat → Nat → Int) : Prop := ∃ c : Nat, S 31 3 = c ∧ c ≤ 1681 ∧ BDo (S 32) c 400
def rkV (S : Nat → Nat → Int) (i : Nat) (x y : Int) : Int := S (36 + 3 * i) (cix (S 88 i * S 88 i + S 89 i * S 89 i) (S (35 + 3 * i) 4) (S (35 + 3 * i) 5) x y).toNat
def dotV (S : Nat → Nat → Int) (p : Int) (i : Nat) (x y : Int) : Int := if rkV S i x y < (amtM (S 83) (S 85) (S 84) p i x y * (S 88 i * S 88 i + S 89 i * S 89 i) + 127) / 255 then 1 else 0
def shN (X Y : Nat → Int) (am : Int → Int → Int) (n mx my : Int) : Nat → Nat → Int → Int
  | 0, _, o => o
  | r + 1, k, o => if (0 ≤ X k + mx ∧ X k + mx < 48) ∧ (0 ≤ Y k + my ∧ Y k + my < 64) then shN X Y am n mx my r (k + 1) (if (k : Int) < (am (X k + mx) (Y k + my) * n + 127) / 255 then o + 1 else o) else -1
theorem shN_cg {X Y X' Y' : Nat → Int} {am : Int → Int → Int} {n mx my : Int} : ∀ (r k : Nat) (o : Int), (∀ j, k ≤ j → j < k + r → X j = X' j ∧ Y j = Y' j) → shN X Y am n mx my r k o = shN X' Y' am n mx my r k o
  | 0, _, _, _ => rfl
  | r + 1, k, o, h => by
    simp only [shN]
    rw [(h k (by omega) (by omega)).1, (h k (by omega) (by omega)).2]
    split
    · exact shN_cg r (k + 1) _ (fun j h1 h2 => h j (by omega) (by omega))
    · rfl
/-- the answer of share -/
def shV (S : Nat → Nat → Int) (p : Int) (i : Nat) (x y : Int) : Int :=
  shN (fun k => px (S (37 + 3 * i) k)) (fun k => py (S (37 + 3 * i) k)) (fun u v => amtM (S 83) (S 85) (S 84) p i u v) (S 88 i * S 88 i + S 89 i * S 89 i) (x - px (S (37 + 3 * i) (rkV S i x y).toNat)) (y - py (S (37 + 3 * i) (rkV S i x y).toNat)) (S 88 i * S 88 i + S 89 i * S 89 i).toNat 0 0
def prN (d : Nat → Int) : Nat → Nat → Int → Int
  | 0, _, o => o
  | r + 1, k, o => prN d r (k + 1) (if d k = 0 then o else o + 2 ^ k)
/-- the answer of proof -/
def prV (S : Nat → Nat → Int) (p x y : Int) : Int := prN (fun i => dotV S p i x y) 8 0 0
theorem j_shk : ∀ k : Fin 8, (Int32.ofInt 1 <<< (Int32.ofInt (k.val : Int) &&& 31)) = Int32.ofInt (2 ^ k.val) := by decide +kernel
theorem j_ork : ∀ k : Fin 8, ∀ a : Fin 256, a.val < 2 ^ k.val → (Int32.ofInt (a.val : Int) ||| Int32.ofInt (2 ^ k.val)) = Int32.ofInt ((a.val : Int) + 2 ^ k.val) := by decide +kernel
theorem SCi_col {S : Nat → Nat → Int} {i : Nat} (C : SCi S i) : ∃ c, S 88 i * S 88 i + S 89 i * S 89 i = S (35 + 3 * i) 4 * c := by
  obtain ⟨-, -, ⟨⟨-, -, ⟨a', ea⟩, ⟨b', eb⟩⟩, -⟩, -⟩ := C
  generalize S (35 + 3 * i) 4 = g at *
  generalize S 88 i = a at *
  generalize S 89 i = b at *
  exact ⟨a * a' + b * b', by
    have e1 : a * a = g * (a * a') := by
      have : a * a = a * (g * a') := congrArg (fun z => a * z) ea
      rw [this]; grind
    have e2 : b * b = g * (b * b') := by
      have : b * b = b * (g * b') := congrArg (fun z => b * z) eb
      rw [this]; grind
    rw [e1, e2]; grind⟩
section CES
variable {V : Nat → Value} {W : xWt} {N : Nat} {T : Nat → Nat → Int64} {S : Nat → Nat → Int} {h : xH}
theorem HP.hb (H : HP N h S T) : HB 31 102 N h S T := fun k _ h2 => H.1 k h2
theorem HP.of_hb {h' : xH} {S' : Nat → Nat → Int} (H : HP N h S T) (B : HB 31 102 N h' S' T) (F : HF 31 102 N h h') (e : ∀ k, k < 31 → S' k = S k) : HP N h' S' T := by
  refine ⟨fun k hk => ?_, by rw [F.1]; exact H.2⟩
  rcases Nat.lt_or_ge k 31 with c | c
  · rw [F.2 _ (by omega), e k c]; exact H.1 k hk
  · exact B k c hk
theorem p_screen (hW : xFix V W) (H : HP N h S T) (P : PLC S) {ink a b s : Int} (h1 : j32 ink) (h2 : j32 a) (h3 : j32 b) (h4 : j32 s) :
    if 0 ≤ ink ∧ ink < 8 then (if ((-20 ≤ a ∧ a ≤ 20) ∧ (-20 ≤ b ∧ b ≤ 20)) ∧ (1 ≤ a * a + b * b ∧ a * a + b * b ≤ 400) ∧ (0 ≤ s ∧ s ≤ 2) then
      ∃ (h' : xH) (S' : Nat → Nat → Int), W m_Room_screen (0, [some (.ref N), some (.int (Int32.ofInt ink)), some (.int (Int32.ofInt a)), some (.int (Int32.ofInt b)), some (.int (Int32.ofInt s))], []) h = some (.inl (some (jI (a * a + b * b))), h') ∧ HP N h' S' T ∧ h'.2 = h.2 ∧ (∀ k, k ≠ 33 → k ≠ 34 → k ≠ 35 + 3 * ink.toNat → k ≠ 36 + 3 * ink.toNat → k ≠ 37 + 3 * ink.toNat → S' k = S k) ∧ S' (35 + 3 * ink.toNat) 3 = a * a + b * b ∧ SCR a b s (S' (35 + 3 * ink.toNat) 4) (S' (35 + 3 * ink.toNat) 5) (S' (36 + 3 * ink.toNat)) (S' (37 + 3 * ink.toNat))
      else W m_Room_screen (0, [some (.ref N), some (.int (Int32.ofInt ink)), some (.int (Int32.ofInt a)), some (.int (Int32.ofInt b)), some (.int (Int32.ofInt s))], []) h = jX 9 h) else W m_Room_screen (0, [some (.ref N), some (.int (Int32.ofInt ink)), some (.int (Int32.ofInt a)), some (.int (Int32.ofInt b)), some (.int (Int32.ofInt s))], []) h = jX 8 h := by
  by_cases c1 : 0 ≤ ink ∧ ink < 8
  · rw [if_pos c1]
    by_cases c2 : -20 ≤ a ∧ a ≤ 20
    · by_cases c3 : -20 ≤ b ∧ b ≤ 20
      · have m1 := mulb c2 c2
        have m2 := mulb c3 c3
        by_cases c4 : 1 ≤ a * a + b * b ∧ a * a + b * b ≤ 400
        · by_cases c5 : 0 ≤ s ∧ s ≤ 2
          · rw [if_pos ⟨⟨c2, c3⟩, c4, c5⟩]
            obtain ⟨c, q1, q2, q3⟩ := P
            obtain ⟨h', S', w1, w2, w3, w4, w5, w6⟩ := p_slay hW H.hb (i := ink.toNat) (by omega) (by omega) c2 c3 (s := s) (by omega) c4 q1 q2 q3
            have H' := H.of_hb w2 w3 (fun k hk => w4 k (by omega) (by omega) (by omega) (by omega) (by omega))
            refine ⟨h', S', ?_, H', w3.1, w4, w5, w6⟩
            simp (disch := omega) only [↓reduceIte, S0, S1, J_lt, J_le, J_eq, J_ldI, J_ldI3, J_ldB, J_ldL, J_ldR, J_stI, J_stB, J_stL, J_dv, j_gne, C0, CM, CP, CR, CJ, CS, CL, and_self, and_true, true_and, and_false, false_and, or_true, true_or, or_false, false_or, not_true_eq_false, not_false_eq_true, Option.map_some, J_ltT, J_ltF, J_leT, J_leF, J_eqT, J_eqF, J_ntT, J_ntF, E_Room_screen hW, H.get0, H.get, p_needIndex hW, p_needBetween hW, c1, c2, c3, c4, c5, w1, H'.get0, H'.get, E_Scr_classCount hW, w5]
          · rw [if_neg (fun q => c5 q.2.2)]
            simp (disch := omega) only [↓reduceIte, S0, S1, J_lt, J_le, J_eq, J_ldI, J_ldI3, J_ldB, J_ldL, J_ldR, J_stI, J_stB, J_stL, J_dv, j_gne, C0, CM, CP, CR, CJ, CS, CL, and_self, and_true, true_and, and_false, false_and, or_true, true_or, or_false, false_or, not_true_eq_false, not_false_eq_true, Option.map_some, E_Room_screen hW, p_needIndex hW, p_needBetween hW, c1, c2, c3, c4, c5, jX_ret X_Room_screen]
        · rw [if_neg (fun q => c4 q.2.1)]
          simp (disch := omega) only [↓reduceIte, S0, S1, J_lt, J_le, J_eq, J_ldI, J_ldI3, J_ldB, J_ldL, J_ldR, J_stI, J_stB, J_stL, J_dv, j_gne, C0, CM, CP, CR, CJ, CS, CL, and_self, and_true, true_and, and_false, false_and, or_true, true_or, or_false, false_or, not_true_eq_false, not_false_eq_true, Option.map_some, E_Room_screen hW, p_needIndex hW, p_needBetween hW, c1, c2, c3, c4, jX_ret X_Room_screen]
      · rw [if_neg (fun q => c3 q.1.2)]
        simp (disch := omega) only [↓reduceIte, S0, S1, J_lt, J_le, J_eq, J_ldI, J_ldI3, J_ldB, J_ldL, J_ldR, J_stI, J_stB, J_stL, J_dv, j_gne, C0, CM, CP, CR, CJ, CS, CL, and_self, and_true, true_and, and_false, false_and, or_true, true_or, or_false, false_or, not_true_eq_false, not_false_eq_true, Option.map_some, E_Room_screen hW, p_needIndex hW, p_needBetween hW, c1, c2, c3, jX_ret X_Room_screen]
    · rw [if_neg (fun q => c2 q.1.1)]
      simp (disch := omega) only [↓reduceIte, S0, S1, J_lt, J_le, J_eq, J_ldI, J_ldI3, J_ldB, J_ldL, J_ldR, J_stI, J_stB, J_stL, J_dv, j_gne, C0, CM, CP, CR, CJ, CS, CL, and_self, and_true, true_and, and_false, false_and, or_true, true_or, or_false, false_or, not_true_eq_false, not_false_eq_true, Option.map_some, E_Room_screen hW, p_needIndex hW, p_needBetween hW, c1, c2, jX_ret X_Room_screen]
  · rw [if_neg c1]
    simp (disch := omega) only [↓reduceIte, S0, S1, J_lt, J_le, J_eq, J_ldI, J_ldI3, J_ldB, J_ldL, J_ldR, J_stI, J_stB, J_stL, J_dv, j_gne, C0, CM, CP, CR, CJ, CS, CL, and_self, and_true, true_and, and_false, false_and, or_true, true_or, or_false, false_or, not_true_eq_false, not_false_eq_true, Option.map_some, E_Room_screen hW, p_needIndex hW, c1, jX_ret X_Room_screen]
theorem rk_b {i : Nat} (C : SCi S i) (x y : Int) : 0 ≤ rkV S i x y ∧ rkV S i x y < S 88 i * S 88 i + S 89 i * S 89 i ∧ (0 ≤ S (37 + 3 * i) (rkV S i x y).toNat ∧ S (37 + 3 * i) (rkV S i x y).toNat < 1681) := by
  obtain ⟨c1, c2, -, -, c5, -, c7⟩ := C
  have := (c7 x y).1
  unfold rkV
  exact ⟨this.1, this.2, (c5 _ (by omega)).1⟩
theorem p_rankAt (hW : xFix V W) (H : HP N h S T) {i : Nat} (hi : i < 8) (C : SCi S i) {x y : Int} (hx : -1000 ≤ x ∧ x ≤ 1000) (hy : -1000 ≤ y ∧ y ≤ 1000) :
    W m_Scr_rankAt (0, [some (.ref (N + (35 + 3 * i))), some (.int (Int32.ofInt x)), some (.int (Int32.ofInt y))], []) h = some (.inl (some (jI (rkV S i x y))), h) := by
  obtain ⟨c, ec⟩ := SCi_col C
  obtain ⟨c1, c2, ⟨⟨g1, g2, -⟩, g3⟩, -⟩ := C
  have ca := p_classAt hW hi (M := 102) (by omega) H.hb (x := x) (y := y) c2 rfl rfl c1.2.2.2 ⟨g1, g2⟩ ec g3 hx hy
  obtain ⟨-, -, -, -, cb⟩ := cix_b (t := S (35 + 3 * i) 5) (x := x) (y := y) g1 ec (by omega)
  unfold rkV
  simp (disch := omega) only [↓reduceIte, S0, S1, J_lt, J_le, J_eq, J_ldI, J_ldI3, J_ldB, J_ldL, J_ldR, J_stI, J_stB, J_stL, J_dv, j_gne, C0, CM, CP, CR, CJ, CS, CL, and_self, and_true, true_and, and_false, false_and, or_true, true_or, or_false, false_or, not_true_eq_false, not_false_eq_true, Option.map_some, J_ltT, J_ltF, J_leT, J_leF, J_eqT, J_eqF, J_ntT, J_ntF, E_Scr_rankAt hW, H.get, ca]
theorem p_rank (hW : xFix V W) (H : HP N h S T) {ink x y : Int} (C : ∀ i, i < 8 → SCi S i) (h1 : j32 ink) (h2 : j32 x) (h3 : j32 y) :
    W m_Room_rank (0, [some (.ref N), some (.int (Int32.ofInt ink)), some (.int (Int32.ofInt x)), some (.int (Int32.ofInt y))], []) h = if 0 ≤ ink ∧ ink < 8 then (if (-1000 ≤ x ∧ x ≤ 1000) ∧ (-1000 ≤ y ∧ y ≤ 1000) then some (.inl (some (jI (rkV S ink.toNat x y))), h) else jX 9 h) else jX 8 h := by
  by_cases c1 : 0 ≤ ink ∧ ink < 8
  · rw [if_pos c1]
    by_cases c2 : -1000 ≤ x ∧ x ≤ 1000
    · by_cases c3 : -1000 ≤ y ∧ y ≤ 1000
      · rw [if_pos ⟨c2, c3⟩]
        have r := p_rankAt hW H (i := ink.toNat) (by omega) (C _ (by omega)) c2 c3
        simp (disch := omega) only [↓reduceIte, S0, S1, J_lt, J_le, J_eq, J_ldI, J_ldI3, J_ldB, J_ldL, J_ldR, J_stI, J_stB, J_stL, J_dv, j_gne, C0, CM, CP, CR, CJ, CS, CL, and_self, and_true, true_and, and_false, false_and, or_true, true_or, or_false, false_or, not_true_eq_false, not_false_eq_true, Option.map_some, J_ltT, J_ltF, J_leT, J_leF, J_eqT, J_eqF, J_ntT, J_ntF, E_Room_rank hW, H.get0, H.get, p_needIndex hW, p_needBetween hW, c1, c2, c3, r]
      · rw [if_neg (fun q => c3 q.2)]
        simp (disch := omega) only [↓reduceIte, S0, S1, J_lt, J_le, J_eq, J_ldI, J_ldI3, J_ldB, J_ldL, J_ldR, J_stI, J_stB, J_stL, J_dv, j_gne, C0, CM, CP, CR, CJ, CS, CL, and_self, and_true, true_and, and_false, false_and, or_true, true_or, or_false, false_or, not_true_eq_false, not_false_eq_true, Option.map_some, E_Room_rank hW, p_needIndex hW, p_needBetween hW, c1, c2, c3, jX_ret X_Room_rank]
    · rw [if_neg (fun q => c2 q.1)]
      simp (disch := omega) only [↓reduceIte, S0, S1, J_lt, J_le, J_eq, J_ldI, J_ldI3, J_ldB, J_ldL, J_ldR, J_stI, J_stB, J_stL, J_dv, j_gne, C0, CM, CP, CR, CJ, CS, CL, and_self, and_true, true_and, and_false, false_and, or_true, true_or, or_false, false_or, not_true_eq_false, not_false_eq_true, Option.map_some, E_Room_rank hW, p_needIndex hW, p_needBetween hW, c1, c2, jX_ret X_Room_rank]
  · rw [if_neg c1]
    simp (disch := omega) only [↓reduceIte, S0, S1, J_lt, J_le, J_eq, J_ldI, J_ldI3, J_ldB, J_ldL, J_ldR, J_stI, J_stB, J_stL, J_dv, j_gne, C0, CM, CP, CR, CJ, CS, CL, and_self, and_true, true_and, and_false, false_and, or_true, true_or, or_false, false_or, not_true_eq_false, not_false_eq_true, Option.map_some, E_Room_rank hW, p_needIndex hW, c1, jX_ret X_Room_rank]
theorem amtM_b {p : Nat} (J : JR S p) {ink x y : Int} (hi : 0 ≤ ink ∧ ink < 8) (hx : 0 ≤ x ∧ x < 48) (hy : 0 ≤ y ∧ y < 64) : 0 ≤ amtM (S 83) (S 85) (S 84) p ink x y ∧ amtM (S 83) (S 85) (S 84) p ink x y ≤ 255 := by
  obtain ⟨a1, a2, a3⟩ := J.1 (48 * y + x).toNat (by omega)
  obtain ⟨b1, b2, b3⟩ := J.2.1 (48 * y + x).toNat (by omega)
  rw [show 3072 * p + (48 * y + x).toNat = (3072 * (p : Int) + 48 * y + x).toNat by omega] at a1 a2 a3 b1 b2 b3
  have k1 := J.2.2 (8 * S 83 (3072 * (p : Int) + 48 * y + x).toNat + ink).toNat (by omega)
  rw [show 512 * p + (8 * S 83 (3072 * (p : Int) + 48 * y + x).toNat + ink).toNat = (512 * (p : Int) + 8 * S 83 (3072 * (p : Int) + 48 * y + x).toNat + ink).toNat by omega] at k1
  unfold amtM mx
  by_cases c : 0 < S 85 (3072 * (p : Int) + 48 * y + x).toNat
  · have k2 := J.2.2 (8 * (S 85 (3072 * (p : Int) + 48 * y + x).toNat - 1) + ink).toNat (by omega)
    rw [show 512 * p + (8 * (S 85 (3072 * (p : Int) + 48 * y + x).toNat - 1) + ink).toNat = (512 * (p : Int) + 8 * (S 85 (3072 * (p : Int) + 48 * y + x).toNat - 1) + ink).toNat by omega] at k2
    rw [if_pos c]
    split <;> omega
  · rw [if_neg c]
    split <;> omega
theorem am_n {am n : Int} (ha : 0 ≤ am ∧ am ≤ 255) (hn : 1 ≤ n ∧ n ≤ 400) : 0 ≤ am * n ∧ am * n ≤ 102000 := by
  have m1 := mulb (a := am) (y := n) (A := 255) (B := 400) (by omega) (by omega)
  exact ⟨Int.mul_nonneg ha.1 (by omega), by omega⟩
theorem p_prints (hW : xFix V W) (H : HP N h S T) {i : Nat} (hi : i < 8) (C : SCi S i) {r am : Int} (hr : j32 r) (ha : 0 ≤ am ∧ am ≤ 255) :
    W m_Scr_prints (0, [some (.ref (N + (35 + 3 * i))), some (.int (Int32.ofInt r)), some (.int (Int32.ofInt am))], []) h = some (.inl (some (jI (if r < (am * (S 88 i * S 88 i + S 89 i * S 89 i) + 127) / 255 then 1 else 0))), h) := by
  have m := am_n ha C.1.2.2.2
  have e := C.2.1
  have c := C.1.2.2.2
  generalize S 88 i * S 88 i + S 89 i * S 89 i = n at *
  by_cases l : r < (am * n + 127) / 255
  · rw [if_pos l]
    simp (disch := omega) only [↓reduceIte, S0, S1, J_lt, J_le, J_eq, J_ldI, J_ldI3, J_ldB, J_ldL, J_ldR, J_stI, J_stB, J_stL, J_dv, j_gne, C0, CM, CP, CR, CJ, CS, CL, and_self, and_true, true_and, and_false, false_and, or_true, true_or, or_false, false_or, not_true_eq_false, not_false_eq_true, Option.map_some, J_ltT, J_ltF, J_leT, J_leF, J_eqT, J_eqF, J_ntT, J_ntF, E_Scr_prints hW, H.get, e, J_div]
  · rw [if_neg l]
    simp (disch := omega) only [↓reduceIte, S0, S1, J_lt, J_le, J_eq, J_ldI, J_ldI3, J_ldB, J_ldL, J_ldR, J_stI, J_stB, J_stL, J_dv, j_gne, C0, CM, CP, CR, CJ, CS, CL, and_self, and_true, true_and, and_false, false_and, or_true, true_or, or_false, false_or, not_true_eq_false, not_false_eq_true, Option.map_some, J_ltT, J_ltF, J_leT, J_leF, J_eqT, J_eqF, J_ntT, J_ntF, E_Scr_prints hW, H.get, e, J_div]
theorem p_jamt (hW : xFix V W) (H : HP N h S T) {p : Nat} (hp : p < 4) (J : JR S p) {ink x y : Int} (hi : 0 ≤ ink ∧ ink < 8) (hx : 0 ≤ x ∧ x < 48) (hy : 0 ≤ y ∧ y < 64) :
    W m_Job_amountAt (0, [some (.ref (N + (8 + 4 * p))), some (.int (Int32.ofInt (y * 48 + x))), some (.int (Int32.ofInt ink)), none], []) h = some (.inl (some (jI (amtM (S 83) (S 85) (S 84) p ink x y))), h) := by
  obtain ⟨a1, a2, a3⟩ := J.1 (y * 48 + x).toNat (by omega)
  obtain ⟨b1, b2, b3⟩ := J.2.1 (y * 48 + x).toNat (by omega)
  rw [← amt_eq hp J hi hx hy]
  exact p_amountAt hW H (p := p) hp (k := y * 48 + x) (ink := ink) (by omega) hi (by omega) (by omega) (fun j hj => by have := J.2.2 j hj; omega)
theorem p_isPrinted (hW : xFix V W) (H : HP N h S T) {p i : Nat} (hp : p < 4) (hi : i < 8) (J : JR S p) (C : SCi S i) {x y : Int} (hx : 0 ≤ x ∧ x < 48) (hy : 0 ≤ y ∧ y < 64) :
    W m_Room_isPrinted (0, [some (.ref N), some (.ref (N + (8 + 4 * p))), some (.int (Int32.ofInt ((i : Int)))), some (.int (Int32.ofInt x)), some (.int (Int32.ofInt y)), none], []) h = some (.inl (some (jI (dotV S p i x y))), h) := by
  have r := p_rankAt hW H hi C (x := x) (y := y) (by omega) (by omega)
  have a := p_jamt hW H hp J (ink := i) (x := x) (y := y) (by omega) hx hy
  have rb := rk_b C x y
  have ab := amtM_b J (ink := i) (x := x) (y := y) (by omega) hx hy
  have pr := p_prints hW H hi C (r := rkV S i x y) (am := amtM (S 83) (S 85) (S 84) p i x y) (by have := C.1.2.2.2; unfold j32; omega) ab
  have e : jI (if rkV S i x y < (amtM (S 83) (S 85) (S 84) p i x y * (S 88 i * S 88 i + S 89 i * S 89 i) + 127) / 255 then 1 else 0) = jI (dotV S p i x y) := rfl
  rw [e] at pr
  have d01 : dotV S p i x y = 0 ∨ dotV S p i x y = 1 := by unfold dotV; split; exact Or.inr rfl; exact Or.inl rfl
  simp (disch := omega) only [↓reduceIte, S0, S1, J_lt, J_le, J_eq, J_ldI, J_ldI3, J_ldB, J_ldL, J_ldR, J_stI, J_stB, J_stL, J_dv, j_gne, C0, CM, CP, CR, CJ, CS, CL, and_self, and_true, true_and, and_false, false_and, or_true, true_or, or_false, false_or, not_true_eq_false, not_false_eq_true, Option.map_some, J_ltT, J_ltF, J_leT, J_leF, J_eqT, J_eqF, J_ntT, J_ntF, E_Room_isPrinted hW, H.get0, H.get, Int.toNat_natCast, r, p_cellAt hW, a, pr]
  rcases d01 with d | d <;> rw [d] <;> rfl
theorem p_dot (hW : xFix V W) (H : HP N h S T) {p ink x y : Int} (C : ∀ i, i < 8 → SCi S i) (hp : j32 p) (hi : j32 ink) (hx : j32 x) (hy : j32 y) (hm : ∀ q, q < 4 → S (8 + 4 * q) 3 = 0 ∨ S (8 + 4 * q) 3 = 1) (hJ : ∀ q, q < 4 → S (8 + 4 * q) 3 = 1 → JR S q) :
    W m_Room_dot (0, [some (.ref N), some (.int (Int32.ofInt p)), some (.int (Int32.ofInt ink)), some (.int (Int32.ofInt x)), some (.int (Int32.ofInt y))], []) h = if ((0 ≤ p ∧ p < 4) ∧ (0 ≤ x ∧ x < 48) ∧ (0 ≤ y ∧ y < 64)) ∧ (0 ≤ ink ∧ ink < 8) then (if S (8 + 4 * p.toNat) 3 = 1 then some (.inl (some (jI (dotV S p ink.toNat x y))), h) else jX 10 h) else jX 8 h := by
  by_cases c2 : 0 ≤ ink ∧ ink < 8
  · by_cases c1 : (0 ≤ p ∧ p < 4) ∧ (0 ≤ x ∧ x < 48) ∧ (0 ≤ y ∧ y < 64)
    · rw [if_pos ⟨c1, c2⟩]
      by_cases c3 : S (8 + 4 * p.toNat) 3 = 1
      · rw [if_pos c3]
        have r := p_isPrinted hW H (p := p.toNat) (i := ink.toNat) (by omega) (by omega) (hJ _ (by omega) c3) (C _ (by omega)) c1.2.1 c1.2.2
        rw [show ((p.toNat : Nat) : Int) = p by omega, show ((ink.toNat : Nat) : Int) = ink by omega] at r
        have d01 : dotV S p ink.toNat x y = 0 ∨ dotV S p ink.toNat x y = 1 := by unfold dotV; split; exact Or.inr rfl; exact Or.inl rfl
        simp (disch := omega) only [↓reduceIte, S0, S1, J_lt, J_le, J_eq, J_ldI, J_ldI3, J_ldB, J_ldL, J_ldR, J_stI, J_stB, J_stL, J_dv, j_gne, C0, CM, CP, CR, CJ, CS, CL, and_self, and_true, true_and, and_false, false_and, or_true, true_or, or_false, false_or, not_true_eq_false, not_false_eq_true, Option.map_some, J_ltT, J_ltF, J_leT, J_leF, J_eqT, J_eqF, J_ntT, J_ntF, E_Room_dot hW, H.get0, p_needIndex hW, p_madeJob hW H hp hx hy hm, c1, c2, c3, r]
        rcases d01 with d | d <;> rw [d] <;> rfl
      · rw [if_neg c3]
        simp (disch := omega) only [↓reduceIte, S0, S1, J_lt, J_le, J_eq, J_ldI, J_ldI3, J_ldB, J_ldL, J_ldR, J_stI, J_stB, J_stL, J_dv, j_gne, C0, CM, CP, CR, CJ, CS, CL, and_self, and_true, true_and, and_false, false_and, or_true, true_or, or_false, false_or, not_true_eq_false, not_false_eq_true, Option.map_some, E_Room_dot hW, H.get0, p_needIndex hW, p_madeJob hW H hp hx hy hm, c1, c2, c3, jX_ret X_Room_dot]
    · rw [if_neg (fun q => c1 q.1)]
      simp (disch := omega) only [↓reduceIte, S0, S1, J_lt, J_le, J_eq, J_ldI, J_ldI3, J_ldB, J_ldL, J_ldR, J_stI, J_stB, J_stL, J_dv, j_gne, C0, CM, CP, CR, CJ, CS, CL, and_self, and_true, true_and, and_false, false_and, or_true, true_or, or_false, false_or, not_true_eq_false, not_false_eq_true, Option.map_some, E_Room_dot hW, H.get0, p_needIndex hW, p_madeJob hW H hp hx hy hm, c1, c2, jX_ret X_Room_dot]
  · rw [if_neg (fun q => c2 q.2)]
    simp (disch := omega) only [↓reduceIte, S0, S1, J_lt, J_le, J_eq, J_ldI, J_ldI3, J_ldB, J_ldL, J_ldR, J_stI, J_stB, J_stL, J_dv, j_gne, C0, CM, CP, CR, CJ, CS, CL, and_self, and_true, true_and, and_false, false_and, or_true, true_or, or_false, false_or, not_true_eq_false, not_false_eq_true, Option.map_some, E_Room_dot hW, p_needIndex hW, c2, jX_ret X_Room_dot]
theorem p_isOnPage (hW : xFix V W) {x y : Int} (hx : j32 x) (hy : j32 y) : W m_Room_isOnPage (0, [some (.int (Int32.ofInt x)), some (.int (Int32.ofInt y))], []) h = some (.inl (some (jI (if (0 ≤ x ∧ x < 48) ∧ (0 ≤ y ∧ y < 64) then 1 else 0))), h) := by
  by_cases c1 : x < 0
  · rw [if_neg (by omega)]
    simp (disch := omega) only [↓reduceIte, S0, S1, J_lt, J_le, J_eq, J_ldI, J_ldI3, J_ldB, J_ldL, J_ldR, J_stI, J_stB, J_stL, J_dv, j_gne, C0, CM, CP, CR, CJ, CS, CL, and_self, and_true, true_and, and_false, false_and, or_true, true_or, or_false, false_or, not_true_eq_false, not_false_eq_true, Option.map_some, J_ltT, J_ltF, J_leT, J_leF, J_eqT, J_eqF, J_ntT, J_ntF, E_Room_isOnPage hW]
  · by_cases c2 : 48 ≤ x
    · rw [if_neg (by omega)]
      simp (disch := omega) only [↓reduceIte, S0, S1, J_lt, J_le, J_eq, J_ldI, J_ldI3, J_ldB, J_ldL, J_ldR, J_stI, J_stB, J_stL, J_dv, j_gne, C0, CM, CP, CR, CJ, CS, CL, and_self, and_true, true_and, and_false, false_and, or_true, true_or, or_false, false_or, not_true_eq_false, not_false_eq_true, Option.map_some, J_ltT, J_ltF, J_leT, J_leF, J_eqT, J_eqF, J_ntT, J_ntF, E_Room_isOnPage hW]
    · by_cases c3 : y < 0
      · rw [if_neg (by omega)]
        simp (disch := omega) only [↓reduceIte, S0, S1, J_lt, J_le, J_eq, J_ldI, J_ldI3, J_ldB, J_ldL, J_ldR, J_stI, J_stB, J_stL, J_dv, j_gne, C0, CM, CP, CR, CJ, CS, CL, and_self, and_true, true_and, and_false, false_and, or_true, true_or, or_false, false_or, not_true_eq_false, not_false_eq_true, Option.map_some, J_ltT, J_ltF, J_leT, J_leF, J_eqT, J_eqF, J_ntT, J_ntF, E_Room_isOnPage hW]
      · by_cases c4 : 64 ≤ y
        · rw [if_neg (by omega)]
          simp (disch := omega) only [↓reduceIte, S0, S1, J_lt, J_le, J_eq, J_ldI, J_ldI3, J_ldB, J_ldL, J_ldR, J_stI, J_stB, J_stL, J_dv, j_gne, C0, CM, CP, CR, CJ, CS, CL, and_self, and_true, true_and, and_false, false_and, or_true, true_or, or_false, false_or, not_true_eq_false, not_false_eq_true, Option.map_some, J_ltT, J_ltF, J_leT, J_leF, J_eqT, J_eqF, J_ntT, J_ntF, E_Room_isOnPage hW]
        · rw [if_pos (by omega)]
          simp (disch := omega) only [↓reduceIte, S0, S1, J_lt, J_le, J_eq, J_ldI, J_ldI3, J_ldB, J_ldL, J_ldR, J_stI, J_stB, J_stL, J_dv, j_gne, C0, CM, CP, CR, CJ, CS, CL, and_self, and_true, true_and, and_false, false_and, or_true, true_or, or_false, false_or, not_true_eq_false, not_false_eq_true, Option.map_some, J_ltT, J_ltF, J_leT, J_leF, J_eqT, J_eqF, J_ntT, J_ntF, E_Room_isOnPage hW]
theorem p_heartX (hW : xFix V W) (H : HP N h S T) {i : Nat} (hi : i < 8) (C : SCi S i) {r : Nat} (hr : (r : Int) < S 88 i * S 88 i + S 89 i * S 89 i) : W m_Scr_heartX (0, [some (.ref (N + (35 + 3 * i))), some (.int (Int32.ofInt ((r : Int))))], []) h = some (.inl (some (jI (px (S (37 + 3 * i) r)))), h) := by
  have g := (C.2.2.2.2.1 r hr).1
  have n4 := C.1.2.2.2
  simp (disch := omega) only [↓reduceIte, S0, S1, J_lt, J_le, J_eq, J_ldI, J_ldI3, J_ldB, J_ldL, J_ldR, J_stI, J_stB, J_stL, J_dv, j_gne, C0, CM, CP, CR, CJ, CS, CL, and_self, and_true, true_and, and_false, false_and, or_true, true_or, or_false, false_or, not_true_eq_false, not_false_eq_true, Option.map_some, J_ltT, J_ltF, J_leT, J_leF, J_eqT, J_eqF, J_ntT, J_ntF, E_Scr_heartX hW, H.get, Int.toNat_natCast, p_xOf hW g]
theorem p_heartY (hW : xFix V W) (H : HP N h S T) {i : Nat} (hi : i < 8) (C : SCi S i) {r : Nat} (hr : (r : Int) < S 88 i * S 88 i + S 89 i * S 89 i) : W m_Scr_heartY (0, [some (.ref (N + (35 + 3 * i))), some (.int (Int32.ofInt ((r : Int))))], []) h = some (.inl (some (jI (py (S (37 + 3 * i) r)))), h) := by
  have g := (C.2.2.2.2.1 r hr).1
  have n4 := C.1.2.2.2
  simp (disch := omega) only [↓reduceIte, S0, S1, J_lt, J_le, J_eq, J_ldI, J_ldI3, J_ldB, J_ldL, J_ldR, J_stI, J_stB, J_stL, J_dv, j_gne, C0, CM, CP, CR, CJ, CS, CL, and_self, and_true, true_and, and_false, false_and, or_true, true_or, or_false, false_or, not_true_eq_false, not_false_eq_true, Option.map_some, J_ltT, J_ltF, J_leT, J_leF, J_eqT, J_eqF, J_ntT, J_ntF, E_Scr_heartY hW, H.get, Int.toNat_natCast, p_yOf hW g]
theorem p_shLp (hW : xFix V W) (H : HP N h S T) {p i : Nat} (hp : p < 4) (hi : i < 8) (J : JR S p) (C : SCi S i) {x y x7 mx my : Int} (hx : -1000 ≤ mx ∧ mx ≤ 1000) (hy : -1000 ≤ my ∧ my ≤ 1000) : ∀ (r k : Nat) (o : Int) (s12 s13 : Option Value), ((k + r : Nat) : Int) = S 88 i * S 88 i + S 89 i * S 89 i →
    W m_Room_share (63, [some (.ref N), some (.int (Int32.ofInt ((p : Int)))), some (.int (Int32.ofInt ((i : Int)))), some (.int (Int32.ofInt x)), some (.int (Int32.ofInt y)), some (.ref (N + (8 + 4 * p))), some (.ref (N + (35 + 3 * i))), some (.int (Int32.ofInt x7)), some (.int (Int32.ofInt mx)), some (.int (Int32.ofInt my)), some (.int (Int32.ofInt o)), some (.int (Int32.ofInt ((k : Int)))), s12, s13], []) h = some (.inl (some (jI (shN (fun k => px (S (37 + 3 * i) k)) (fun k => py (S (37 + 3 * i) k)) (fun u v => amtM (S 83) (S 85) (S 84) p i u v) (S 88 i * S 88 i + S 89 i * S 89 i) mx my r k o))), h) := by
  have n4 := C.1.2.2.2
  have e3 := C.2.1
  intro r
  induction r with
  | zero =>
    intro k o s12 s13 hk
    rw [L_Room_share_63 hW]
    simp only [shN]
    simp (disch := omega) only [↓reduceIte, S0, S1, J_lt, J_le, J_eq, J_ldI, J_ldI3, J_ldB, J_ldL, J_ldR, J_stI, J_stB, J_stL, J_dv, j_gne, C0, CM, CP, CR, CJ, CS, CL, and_self, and_true, true_and, and_false, false_and, or_true, true_or, or_false, false_or, not_true_eq_false, not_false_eq_true, Option.map_some, J_ltT, J_ltF, J_leT, J_leF, J_eqT, J_eqF, J_ntT, J_ntF, E_Room_share hW, H.get, E_Scr_classCount hW, e3]
  | succ r ih =>
    intro k o s12 s13 hk
    have hX := fun h' : xH => p_heartX hW H hi C (r := k) (by omega)
    have g := (C.2.2.2.2.1 k (by omega)).1
    have bd := px_b g
    have hx1 := p_heartX hW H hi C (r := k) (by omega)
    have hy1 := p_heartY hW H hi C (r := k) (by omega)
    have op := p_isOnPage (h := h) hW (x := px (S (37 + 3 * i) k) + mx) (y := py (S (37 + 3 * i) k) + my) (by unfold j32; omega) (by unfold j32; omega)
    rw [L_Room_share_63 hW]
    simp only [shN]
    by_cases c : (0 ≤ px (S (37 + 3 * i) k) + mx ∧ px (S (37 + 3 * i) k) + mx < 48) ∧ (0 ≤ py (S (37 + 3 * i) k) + my ∧ py (S (37 + 3 * i) k) + my < 64)
    · rw [if_pos c] at op ⊢
      have a := p_jamt hW H hp J (ink := i) (by omega) c.1 c.2
      have ab := amtM_b J (ink := i) (by omega) c.1 c.2
      have pr := p_prints hW H hi C (r := k) (am := amtM (S 83) (S 85) (S 84) p i (px (S (37 + 3 * i) k) + mx) (py (S (37 + 3 * i) k) + my)) (by unfold j32; omega) ab
      by_cases l : (k : Int) < (amtM (S 83) (S 85) (S 84) p i (px (S (37 + 3 * i) k) + mx) (py (S (37 + 3 * i) k) + my) * (S 88 i * S 88 i + S 89 i * S 89 i) + 127) / 255
      · rw [if_pos l] at pr ⊢
        have ih1 := ih (k + 1) (o + 1) (some (.int (Int32.ofInt (px (S (37 + 3 * i) k) + mx)))) (some (.int (Int32.ofInt (py (S (37 + 3 * i) k) + my)))) (by omega)
        rw [← ih1, show ((k + 1 : Nat) : Int) = (k : Int) + 1 from rfl]
        simp (disch := omega) only [↓reduceIte, S0, S1, J_lt, J_le, J_eq, J_ldI, J_ldI3, J_ldB, J_ldL, J_ldR, J_stI, J_stB, J_stL, J_dv, j_gne, C0, CM, CP, CR, CJ, CS, CL, and_self, and_true, true_and, and_false, false_and, or_true, true_or, or_false, false_or, not_true_eq_false, not_false_eq_true, Option.map_some, J_ltT, J_ltF, J_leT, J_leF, J_eqT, J_eqF, J_ntT, J_ntF, E_Room_share hW, H.get, E_Scr_classCount hW, e3, hx1, hy1, op, p_cellAt hW, a, pr]
      · rw [if_neg l] at pr ⊢
        have ih1 := ih (k + 1) o (some (.int (Int32.ofInt (px (S (37 + 3 * i) k) + mx)))) (some (.int (Int32.ofInt (py (S (37 + 3 * i) k) + my)))) (by omega)
        rw [← ih1, show ((k + 1 : Nat) : Int) = (k : Int) + 1 from rfl]
        simp (disch := omega) only [↓reduceIte, S0, S1, J_lt, J_le, J_eq, J_ldI, J_ldI3, J_ldB, J_ldL, J_ldR, J_stI, J_stB, J_stL, J_dv, j_gne, C0, CM, CP, CR, CJ, CS, CL, and_self, and_true, true_and, and_false, false_and, or_true, true_or, or_false, false_or, not_true_eq_false, not_false_eq_true, Option.map_some, J_ltT, J_ltF, J_leT, J_leF, J_eqT, J_eqF, J_ntT, J_ntF, E_Room_share hW, H.get, E_Scr_classCount hW, e3, hx1, hy1, op, p_cellAt hW, a, pr]
    · rw [if_neg c] at op ⊢
      simp (disch := omega) only [↓reduceIte, S0, S1, J_lt, J_le, J_eq, J_ldI, J_ldI3, J_ldB, J_ldL, J_ldR, J_stI, J_stB, J_stL, J_dv, j_gne, C0, CM, CP, CR, CJ, CS, CL, and_self, and_true, true_and, and_false, false_and, or_true, true_or, or_false, false_or, not_true_eq_false, not_false_eq_true, Option.map_some, J_ltT, J_ltF, J_leT, J_leF, J_eqT, J_eqF, J_ntT, J_ntF, E_Room_share hW, H.get, E_Scr_classCount hW, e3, hx1, hy1, op]
theorem p_share (hW : xFix V W) (H : HP N h S T) {p ink x y : Int} (C : ∀ i, i < 8 → SCi S i) (hp : j32 p) (hi : j32 ink) (hx : j32 x) (hy : j32 y) (hm : ∀ q, q < 4 → S (8 + 4 * q) 3 = 0 ∨ S (8 + 4 * q) 3 = 1) (hJ : ∀ q, q < 4 → S (8 + 4 * q) 3 = 1 → JR S q) :
    W m_Room_share (0, [some (.ref N), some (.int (Int32.ofInt p)), some (.int (Int32.ofInt ink)), some (.int (Int32.ofInt x)), some (.int (Int32.ofInt y)), none, none, none, none, none, none, none, none, none], []) h = if ((0 ≤ p ∧ p < 4) ∧ (0 ≤ x ∧ x < 48) ∧ (0 ≤ y ∧ y < 64)) ∧ (0 ≤ ink ∧ ink < 8) then (if S (8 + 4 * p.toNat) 3 = 1 then some (.inl (some (jI (shV S p ink.toNat x y))), h) else jX 10 h) else jX 8 h := by
  by_cases c2 : 0 ≤ ink ∧ ink < 8
  · by_cases c1 : (0 ≤ p ∧ p < 4) ∧ (0 ≤ x ∧ x < 48) ∧ (0 ≤ y ∧ y < 64)
    · rw [if_pos ⟨c1, c2⟩]
      by_cases c3 : S (8 + 4 * p.toNat) 3 = 1
      · rw [if_pos c3]
        have Ci := C ink.toNat (by omega)
        have rb := rk_b Ci x y
        have bd := px_b rb.2.2
        have e1 : (((rkV S ink.toNat x y).toNat : Nat) : Int) = rkV S ink.toNat x y := by omega
        have r := p_rankAt hW H (i := ink.toNat) (by omega) Ci (x := x) (y := y) (by omega) (by omega)
        have hx1 := p_heartX hW H (i := ink.toNat) (by omega) Ci (r := (rkV S ink.toNat x y).toNat) (by omega)
        have hy1 := p_heartY hW H (i := ink.toNat) (by omega) Ci (r := (rkV S ink.toNat x y).toNat) (by omega)
        rw [e1] at hx1 hy1
        have lp := p_shLp hW H (p := p.toNat) (i := ink.toNat) (by omega) (by omega) (hJ _ (by omega) c3) Ci (x := x) (y := y) (x7 := rkV S ink.toNat x y) (mx := x - px (S (37 + 3 * ink.toNat) (rkV S ink.toNat x y).toNat)) (my := y - py (S (37 + 3 * ink.toNat) (rkV S ink.toNat x y).toNat)) (by omega) (by omega) (S 88 ink.toNat * S 88 ink.toNat + S 89 ink.toNat * S 89 ink.toNat).toNat 0 0 none none (by omega)
        rw [show ((0 : Nat) : Int) = 0 from rfl, show ((p.toNat : Nat) : Int) = p by omega, show ((ink.toNat : Nat) : Int) = ink by omega] at lp
        unfold shV
        rw [show ((ink.toNat : Nat) : Int) = ink by omega, ← lp]
        simp (disch := omega) only [↓reduceIte, S0, S1, J_lt, J_le, J_eq, J_ldI, J_ldI3, J_ldB, J_ldL, J_ldR, J_stI, J_stB, J_stL, J_dv, j_gne, C0, CM, CP, CR, CJ, CS, CL, and_self, and_true, true_and, and_false, false_and, or_true, true_or, or_false, false_or, not_true_eq_false, not_false_eq_true, Option.map_some, J_ltT, J_ltF, J_leT, J_leF, J_eqT, J_eqF, J_ntT, J_ntF, E_Room_share hW, H.get0, H.get, p_needIndex hW, p_madeJob hW H hp hx hy hm, c1, c2, c3, r, hx1, hy1]
      · rw [if_neg c3]
        simp (disch := omega) only [↓reduceIte, S0, S1, J_lt, J_le, J_eq, J_ldI, J_ldI3, J_ldB, J_ldL, J_ldR, J_stI, J_stB, J_stL, J_dv, j_gne, C0, CM, CP, CR, CJ, CS, CL, and_self, and_true, true_and, and_false, false_and, or_true, true_or, or_false, false_or, not_true_eq_false, not_false_eq_true, Option.map_some, E_Room_share hW, H.get0, p_needIndex hW, p_madeJob hW H hp hx hy hm, c1, c2, c3, jX_ret X_Room_share]
    · rw [if_neg (fun q => c1 q.1)]
      simp (disch := omega) only [↓reduceIte, S0, S1, J_lt, J_le, J_eq, J_ldI, J_ldI3, J_ldB, J_ldL, J_ldR, J_stI, J_stB, J_stL, J_dv, j_gne, C0, CM, CP, CR, CJ, CS, CL, and_self, and_true, true_and, and_false, false_and, or_true, true_or, or_false, false_or, not_true_eq_false, not_false_eq_true, Option.map_some, E_Room_share hW, H.get0, p_needIndex hW, p_madeJob hW H hp hx hy hm, c1, c2, jX_ret X_Room_share]
  · rw [if_neg (fun q => c2 q.2)]
    simp (disch := omega) only [↓reduceIte, S0, S1, J_lt, J_le, J_eq, J_ldI, J_ldI3, J_ldB, J_ldL, J_ldR, J_stI, J_stB, J_stL, J_dv, j_gne, C0, CM, CP, CR, CJ, CS, CL, and_self, and_true, true_and, and_false, false_and, or_true, true_or, or_false, false_or, not_true_eq_false, not_false_eq_true, Option.map_some, E_Room_share hW, p_needIndex hW, c2, jX_ret X_Room_share]
theorem p_prLp (hW : xFix V W) (H : HP N h S T) {p : Nat} (hp : p < 4) (J : JR S p) (C : ∀ i, i < 8 → SCi S i) {x y : Int} (hx : 0 ≤ x ∧ x < 48) (hy : 0 ≤ y ∧ y < 64) : ∀ (r k : Nat) (o : Nat), k + r = 8 → o < 2 ^ k →
    W m_Room_proof (15, [some (.ref N), some (.int (Int32.ofInt ((p : Int)))), some (.int (Int32.ofInt x)), some (.int (Int32.ofInt y)), some (.ref (N + (8 + 4 * p))), some (.int (Int32.ofInt ((o : Int)))), some (.int (Int32.ofInt ((k : Int))))], []) h = some (.inl (some (jI (prN (fun i => dotV S p i x y) r k o))), h) := by
  intro r
  induction r with
  | zero =>
    intro k o hk ho
    rw [L_Room_proof_15 hW]
    simp only [prN]
    simp (disch := omega) only [↓reduceIte, S0, S1, J_lt, J_le, J_eq, J_ldI, J_ldI3, J_ldB, J_ldL, J_ldR, J_stI, J_stB, J_stL, J_dv, j_gne, C0, CM, CP, CR, CJ, CS, CL, and_self, and_true, true_and, and_false, false_and, or_true, true_or, or_false, false_or, not_true_eq_false, not_false_eq_true, Option.map_some, J_ltT, J_ltF, J_leT, J_leF, J_eqT, J_eqF, J_ntT, J_ntF, E_Room_proof hW]
  | succ r ih =>
    intro k o hk ho
    have ip := p_isPrinted hW H hp (i := k) (by omega) J (C k (by omega)) hx hy
    have d01 : dotV S p k x y = 0 ∨ dotV S p k x y = 1 := by unfold dotV; split; exact Or.inr rfl; exact Or.inl rfl
    have p2 : (2 : Nat) ^ (k + 1) = 2 * 2 ^ k := by rw [Nat.pow_succ, Nat.mul_comm]
    have pw : (2 : Nat) ^ k ≤ 2 ^ 7 := Nat.pow_le_pow_right (by omega) (by omega)
    have sk := j_shk ⟨k, by omega⟩
    have ok := j_ork ⟨k, by omega⟩ ⟨o, by omega⟩ ho
    simp only [] at sk ok
    rw [L_Room_proof_15 hW]
    simp only [prN]
    rcases d01 with d | d
    · rw [if_pos d]
      rw [d] at ip
      have ih1 := ih (k + 1) o (by omega) (by omega)
      rw [← ih1, show ((k + 1 : Nat) : Int) = (k : Int) + 1 from rfl]
      simp (disch := omega) only [↓reduceIte, S0, S1, J_lt, J_le, J_eq, J_ldI, J_ldI3, J_ldB, J_ldL, J_ldR, J_stI, J_stB, J_stL, J_dv, j_gne, C0, CM, CP, CR, CJ, CS, CL, and_self, and_true, true_and, and_false, false_and, or_true, true_or, or_false, false_or, not_true_eq_false, not_false_eq_true, Option.map_some, J_ltT, J_ltF, J_leT, J_leF, J_eqT, J_eqF, J_ntT, J_ntF, E_Room_proof hW, H.get0, ip]
    · rw [if_neg (show ¬ dotV S p k x y = 0 by omega)]
      rw [d] at ip
      have ih1 := ih (k + 1) (o + 2 ^ k) (by omega) (by omega)
      rw [show ((o : Int) + 2 ^ k) = ((o + 2 ^ k : Nat) : Int) by rw [Int.natCast_add, Int.natCast_pow]; rfl, ← ih1, show ((k + 1 : Nat) : Int) = (k : Int) + 1 from rfl, show ((o + 2 ^ k : Nat) : Int) = ((o : Int) + 2 ^ k) by rw [Int.natCast_add, Int.natCast_pow]; rfl]
      simp (disch := omega) only [↓reduceIte, S0, S1, J_lt, J_le, J_eq, J_ldI, J_ldI3, J_ldB, J_ldL, J_ldR, J_stI, J_stB, J_stL, J_dv, j_gne, C0, CM, CP, CR, CJ, CS, CL, and_self, and_true, true_and, and_false, false_and, or_true, true_or, or_false, false_or, not_true_eq_false, not_false_eq_true, Option.map_some, J_ltT, J_ltF, J_leT, J_leF, J_eqT, J_eqF, J_ntT, J_ntF, E_Room_proof hW, H.get0, ip, sk, ok]
theorem p_proof (hW : xFix V W) (H : HP N h S T) {p x y : Int} (C : ∀ i, i < 8 → SCi S i) (hp : j32 p) (hx : j32 x) (hy : j32 y) (hm : ∀ q, q < 4 → S (8 + 4 * q) 3 = 0 ∨ S (8 + 4 * q) 3 = 1) (hJ : ∀ q, q < 4 → S (8 + 4 * q) 3 = 1 → JR S q) :
    W m_Room_proof (0, [some (.ref N), some (.int (Int32.ofInt p)), some (.int (Int32.ofInt x)), some (.int (Int32.ofInt y)), none, none, none], []) h = if (0 ≤ p ∧ p < 4) ∧ (0 ≤ x ∧ x < 48) ∧ (0 ≤ y ∧ y < 64) then (if S (8 + 4 * p.toNat) 3 = 1 then some (.inl (some (jI (prV S p x y))), h) else jX 10 h) else jX 8 h := by
  by_cases c1 : (0 ≤ p ∧ p < 4) ∧ (0 ≤ x ∧ x < 48) ∧ (0 ≤ y ∧ y < 64)
  · rw [if_pos c1]
    by_cases c3 : S (8 + 4 * p.toNat) 3 = 1
    · rw [if_pos c3]
      have lp := p_prLp hW H (p := p.toNat) (by omega) (hJ _ (by omega) c3) C c1.2.1 c1.2.2 8 0 0 (by omega) (by omega)
      rw [show ((0 : Nat) : Int) = 0 from rfl, show ((p.toNat : Nat) : Int) = p by omega] at lp
      unfold prV
      rw [← lp]
      simp (disch := omega) only [↓reduceIte, S0, S1, J_lt, J_le, J_eq, J_ldI, J_ldI3, J_ldB, J_ldL, J_ldR, J_stI, J_stB, J_stL, J_dv, j_gne, C0, CM, CP, CR, CJ, CS, CL, and_self, and_true, true_and, and_false, false_and, or_true, true_or, or_false, false_or, not_true_eq_false, not_false_eq_true, Option.map_some, J_ltT, J_ltF, J_leT, J_leF, J_eqT, J_eqF, J_ntT, J_ntF, E_Room_proof hW, H.get0, p_madeJob hW H hp hx hy hm, c1, c3]
    · rw [if_neg c3]
      simp (disch := omega) only [↓reduceIte, S0, S1, J_lt, J_le, J_eq, J_ldI, J_ldI3, J_ldB, J_ldL, J_ldR, J_stI, J_stB, J_stL, J_dv, j_gne, C0, CM, CP, CR, CJ, CS, CL, and_self, and_true, true_and, and_false, false_and, or_true, true_or, or_false, false_or, not_true_eq_false, not_false_eq_true, Option.map_some, E_Room_proof hW, H.get0, p_madeJob hW H hp hx hy hm, c1, c3, jX_ret X_Room_proof]
  · rw [if_neg c1]
    simp (disch := omega) only [↓reduceIte, S0, S1, J_lt, J_le, J_eq, J_ldI, J_ldI3, J_ldB, J_ldL, J_ldR, J_stI, J_stB, J_stL, J_dv, j_gne, C0, CM, CP, CR, CJ, CS, CL, and_self, and_true, true_and, and_false, false_and, or_true, true_or, or_false, false_or, not_true_eq_false, not_false_eq_true, Option.map_some, E_Room_proof hW, H.get0, p_madeJob hW H hp hx hy hm, c1, jX_ret X_Room_proof]
end CES
