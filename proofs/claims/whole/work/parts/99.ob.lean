/-! one call on both sides, the calls that write -/
section OBS
variable {V : Nat → Value} {W : xWt} {N : Nat} {h : xH} {S : Nat → Nat → Int} {T : Nat → Nat → Int64}
theorem o_colour (hW : xFix V W) (H : HP N h S T) (Q : INV S) {c i v : Int} (hc : j32 c) (hi : j32 i) (hv : j32 v) : OPK N h (W m_Law_colour (0, [some (.ref N), some (.int (Int32.ofInt c)), some (.int (Int32.ofInt i)), some (.int (Int32.ofInt v)), some (.ref (N + 101)), none], []) h) (fun h1 => W m_Mod_colour (0, [some (.ref (N + 78)), some (.int (Int32.ofInt c)), some (.int (Int32.ofInt i)), some (.int (Int32.ofInt v)), none], []) h1) := by
  have pc := p_colour hW H hc hi hv Q.a1
  by_cases c1 : (0 ≤ c ∧ c < 64) ∧ (0 ≤ i ∧ i < 8)
  · rw [if_pos c1] at pc
    have sp : spot (S 1) c i 4 4 = spot (S 79) c i 4 4 := spot_cg 4 4 (fun j hj => (Q.1 j hj).1) c1.1.1 c1.1.2 (by omega) (by omega)
    by_cases c2 : 0 ≤ v ∧ v ≤ 255
    · rw [if_pos c2] at pc
      by_cases c3 : 0 < v ∧ 4 ≤ i ∧ spot (S 1) c i 4 4 = true
      · rw [if_pos c3] at pc
        refine op_ex H Q (by omega) (w_colour_x10 hW H pc) (fun h1 H1 => ?_)
        have qc := q_colour hW H1 hc hi hv Q.a79
        rw [if_pos c1, if_pos c2, if_pos (by rw [← sp]; exact c3)] at qc
        exact qc
      · rw [if_neg c3] at pc
        have H1 := H.put (k := 1) (by omega) (jup (S 1) (c * 8 + i).toNat v) (e := jA 0 512 (jup (S 1) (c * 8 + i).toNat v)) rfl
        refine op_ok H1 rfl (w_colour_ok hW H pc H1) (fun T' h' H' => ?_)
        have e79 : sup S 1 (jup (S 1) (c * 8 + i).toNat v) 79 = S 79 := sup_ne _ _ (by omega)
        have qc := q_colour hW H' hc hi hv (by rw [e79]; exact Q.a79)
        rw [if_pos c1, if_pos c2, if_neg (by rw [e79, ← sp]; exact c3), e79, ← (Q.1 (c * 8 + i).toNat (by omega)).1] at qc
        have H2 := (H'.th 0).put (k := 79) (by omega) (jup (S 79) (c * 8 + i).toNat v) (e := jA 0 512 (jup (S 79) (c * 8 + i).toNat v)) rfl
        refine ⟨_, _, qc, H2, ?_, by rw [sup_ne _ _ (by omega), sup_same, jup_same], rfl⟩
        have f78 : ∀ q, q ≠ 0 → sup (sup (sup S 1 (jup (S 1) (c * 8 + i).toNat v)) 78 (jup (sup S 1 (jup (S 1) (c * 8 + i).toNat v) 78) 0 0)) 79 (jup (S 79) (c * 8 + i).toNat v) 78 q = S 78 q := fun q hq => by rw [sup_ne _ _ (by omega), sup_same, jup_ne _ _ hq, sup_ne _ _ (by omega)]
        have e : ∀ k, k ≠ 1 → k ≠ 78 → k ≠ 79 → sup (sup (sup S 1 (jup (S 1) (c * 8 + i).toNat v)) 78 (jup (sup S 1 (jup (S 1) (c * 8 + i).toNat v) 78) 0 0)) 79 (jup (S 79) (c * 8 + i).toNat v) k = S k := fun k a1 a2 a3 => by rw [sup_ne _ _ a3, sup_ne _ _ a2, sup_ne _ _ a1]
        refine ⟨fun j hj => ?_, I2_of Q.2.1 (fun k hk => e k (by omega) (by omega) (by omega)), I3_of Q.2.2.1 (e 0 (by omega) (by omega) (by omega)) ⟨f78 3 (by omega), f78 4 (by omega)⟩, I4_of Q.2.2.2.1 (fun k hk => e k (by omega) (by omega) (by omega)), SR_of Q.2.2.2.2.1 (fun k hk => e k (by omega) (by omega) (by omega)) ⟨f78 21 (by omega), f78 23 (by omega), f78 24 (by omega)⟩, I6_of Q.2.2.2.2.2 (fun k hk => e k (by omega) (by omega) (by omega))⟩
        rw [sup_same, sup_ne _ _ (by omega), sup_ne _ _ (by omega), sup_same]
        by_cases ej : j = (c * 8 + i).toNat
        · rw [ej, jup_same, jup_same]; exact ⟨rfl, c2⟩
        · rw [jup_ne _ _ ej, jup_ne _ _ ej]; exact Q.1 j hj
    · rw [if_neg c2] at pc
      refine op_ex H Q (by omega) (w_colour_x9 hW H pc) (fun h1 H1 => ?_)
      have qc := q_colour hW H1 hc hi hv Q.a79
      rw [if_pos c1, if_neg c2] at qc
      exact qc
  · rw [if_neg c1] at pc
    refine op_ex H Q (by omega) (w_colour_x8 hW H pc) (fun h1 H1 => ?_)
    have qc := q_colour hW H1 hc hi hv Q.a79
    rw [if_neg c1] at qc
    exact qc
theorem o_box (hW : xFix V W) (H : HP N h S T) (Q : INV S) {p x y w z c : Int} (hp : j32 p) (hx : j32 x) (hy : j32 y) (hw : j32 w) (hz : j32 z) (hc : j32 c) : OPK N h (W m_Law_box (0, [some (.ref N), some (.int (Int32.ofInt p)), some (.int (Int32.ofInt x)), some (.int (Int32.ofInt y)), some (.int (Int32.ofInt w)), some (.int (Int32.ofInt z)), some (.int (Int32.ofInt c)), some (.ref (N + 101)), none], []) h) (fun h1 => W m_Mod_box (0, [some (.ref (N + 78)), some (.int (Int32.ofInt p)), some (.int (Int32.ofInt x)), some (.int (Int32.ofInt y)), some (.int (Int32.ofInt w)), some (.int (Int32.ofInt z)), some (.int (Int32.ofInt c)), none, none, none], []) h1) := by
  have pc := p_box hW H hp hx hy hw hz hc Q.p3
  by_cases c1 : (0 ≤ p ∧ p < 4) ∧ (0 ≤ c ∧ c < 64)
  · rw [if_pos c1] at pc
    by_cases c2 : ((0 ≤ x ∧ x ≤ 47) ∧ (1 ≤ w ∧ w ≤ 48 - x)) ∧ ((0 ≤ y ∧ y ≤ 63) ∧ (1 ≤ z ∧ z ≤ 64 - y))
    · rw [if_pos c2] at pc
      have H1 := H.put (k := 3 + p.toNat) (by omega) (boxF c x w.toNat 0 z.toNat y (S (3 + p.toNat))) (e := jA 0 3072 (boxF c x w.toNat 0 z.toNat y (S (3 + p.toNat)))) (cell_page N _ _ (by omega)).symm
      refine op_ok H1 rfl (w_box_ok hW H pc H1) (fun T' h' H' => ?_)
      have e80 : sup S (3 + p.toNat) (boxF c x w.toNat 0 z.toNat y (S (3 + p.toNat))) 80 = S 80 := sup_ne _ _ (by omega)
      have qc := q_box hW H' hp hx hy hw hz hc (by rw [e80]; exact Q.p80)
      rw [if_pos c1, if_pos c2, e80] at qc
      obtain ⟨s1, s2, s3⟩ := boxF_shift (c := c) (x := x) (s := 3072 * p.toNat) (m := 3072) (w := w.toNat) z.toNat y (S (3 + p.toNat)) (S 80) (by omega) (by omega) (by omega) (by omega) (fun j hj => (Q.2.1 p.toNat (by omega) j hj).1.symm)
      rw [show (((3072 * p.toNat : Nat)) : Int) = 3072 * p by omega] at s1 s2 s3
      rw [s1] at qc
      have H2 := (H'.th 0).put (k := 80) (by omega) (boxF c x w.toNat (3072 * p) z.toNat y (S 80)) (e := jA 0 12288 (boxF c x w.toNat (3072 * p) z.toNat y (S 80))) rfl
      have rg := boxF_rng (c := c) (a := 0) (b := 64) (x := x) (w0 := 3072 * p) (m := 12288) (w := w.toNat) c1.2.1 c1.2.2 z.toNat y (S 80) Q.p80
      refine ⟨_, _, qc, H2, ?_, by rw [sup_ne _ _ (by omega), sup_same, jup_same], rfl⟩
      generalize hG : boxF c x w.toNat 0 z.toNat y (S (3 + p.toNat)) = G at *
      generalize hB : boxF c x w.toNat (3072 * p) z.toNat y (S 80) = B at *
      have f78 : ∀ q, q ≠ 0 → sup (sup (sup S (3 + p.toNat) G) 78 (jup (sup S (3 + p.toNat) G 78) 0 0)) 80 B 78 q = S 78 q := fun q hq => by rw [sup_ne _ _ (by omega), sup_same, jup_ne _ _ hq, sup_ne _ _ (by omega)]
      have e : ∀ k, k ≠ 3 + p.toNat → k ≠ 78 → k ≠ 80 → sup (sup (sup S (3 + p.toNat) G) 78 (jup (sup S (3 + p.toNat) G 78) 0 0)) 80 B k = S k := fun k a1 a2 a3 => by rw [sup_ne _ _ a3, sup_ne _ _ a2, sup_ne _ _ a1]
      refine ⟨I1_of Q.1 (fun k hk => e k (by omega) (by omega) (by omega)), fun q hq j hj => ?_, I3_of Q.2.2.1 (e 0 (by omega) (by omega) (by omega)) ⟨f78 3 (by omega), f78 4 (by omega)⟩, I4_of Q.2.2.2.1 (fun k hk => e k (by omega) (by omega) (by omega)), SR_of Q.2.2.2.2.1 (fun k hk => e k (by omega) (by omega) (by omega)) ⟨f78 21 (by omega), f78 23 (by omega), f78 24 (by omega)⟩, I6_of Q.2.2.2.2.2 (fun k hk => e k (by omega) (by omega) (by omega))⟩
      rw [sup_same]
      refine ⟨?_, rg _ (by omega)⟩
      by_cases eq : q = p.toNat
      · subst eq
        rw [sup_ne _ _ (by omega), sup_ne _ _ (by omega), sup_same, s2 j hj]
      · rw [e _ (by omega) (by omega) (by omega), s3 _ (by omega)]
        exact (Q.2.1 q hq j hj).1
    · rw [if_neg c2] at pc
      refine op_ex H Q (by omega) (w_box_x9 hW H pc) (fun h1 H1 => ?_)
      have qc := q_box hW H1 hp hx hy hw hz hc Q.p80
      rw [if_pos c1, if_neg c2] at qc
      exact qc
  · rw [if_neg c1] at pc
    refine op_ex H Q (by omega) (w_box_x8 hW H pc) (fun h1 H1 => ?_)
    have qc := q_box hW H1 hp hx hy hw hz hc Q.p80
    rw [if_neg c1] at qc
    exact qc
/-- grey answers nothing -/
def OPG (N : Nat) (h : xH) (L : Option xR) (Mf : xH → Option xR) : Prop := ∃ (k : Int) (h1 h2 : xH) (Sa : Nat → Nat → Int) (Ta : Nat → Nat → Int64) (Sb : Nat → Nat → Int) (Tb : Nat → Nat → Int64), L = some (.inl (some (jI k)), h1) ∧ HP N h1 Sa Ta ∧ Mf h1 = some (.inl none, h2) ∧ HP N h2 Sb Tb ∧ INV Sb ∧ (Sb 78 0 = k ∧ (0 ≤ k ∧ k ≤ 3)) ∧ (h1.2.1 ≤ h.2.1 + 1 ∧ h1.2.2 ≤ h.2.2 + 6) ∧ h2.2 = h1.2
theorem o_grey (hW : xFix V W) (H : HP N h S T) (Q : INV S) {s l : Int} (hs : j32 s) (hl : j32 l) : OPG N h (W m_Law_grey (0, [some (.ref N), some (.int (Int32.ofInt s)), some (.int (Int32.ofInt l)), none], []) h) (fun h1 => W m_Mod_grey (0, [some (.ref (N + 78)), some (.int (Int32.ofInt s)), some (.int (Int32.ofInt l))], []) h1) := by
  have pc := p_grey hW H hs hl
  by_cases c1 : (0 ≤ s ∧ s ≤ 100) ∧ (200 ≤ l ∧ l ≤ 1020)
  · rw [if_pos c1] at pc
    have H1 := H.put (k := 0) (by omega) (jup (jup (S 0) 6 s) 7 l) rfl
    have qc := q_grey hW H1 hs hl
    rw [if_pos c1] at qc
    have e78 : sup S 0 (jup (jup (S 0) 6 s) 7 l) 78 = S 78 := sup_ne _ _ (by omega)
    rw [e78] at qc
    have H2 := H1.put (k := 78) (by omega) (jup (jup (jup (S 78) 0 0) 3 s) 4 l) rfl
    refine ⟨0, _, _, _, _, _, _, w_grey_ok hW H pc, H1, qc, H2, ?_, ⟨by rw [sup_same, jup_ne _ _ (by omega), jup_ne _ _ (by omega), jup_same], by omega⟩, ⟨Nat.le_succ _, Nat.le_add_right _ _⟩, rfl⟩
    have e : ∀ k, k ≠ 0 → k ≠ 78 → sup (sup S 0 (jup (jup (S 0) 6 s) 7 l)) 78 (jup (jup (jup (S 78) 0 0) 3 s) 4 l) k = S k := fun k a1 a2 => by rw [sup_ne _ _ a2, sup_ne _ _ a1]
    have f78 : ∀ q, q ≠ 0 → q ≠ 3 → q ≠ 4 → sup (sup S 0 (jup (jup (S 0) 6 s) 7 l)) 78 (jup (jup (jup (S 78) 0 0) 3 s) 4 l) 78 q = S 78 q := fun q a1 a2 a3 => by rw [sup_same, jup_ne _ _ a3, jup_ne _ _ a2, jup_ne _ _ a1]
    refine ⟨I1_of Q.1 (fun k hk => e k (by omega) (by omega)), I2_of Q.2.1 (fun k hk => e k (by omega) (by omega)), ?_, I4_of Q.2.2.2.1 (fun k hk => e k (by omega) (by omega)), SR_of Q.2.2.2.2.1 (fun k hk => e k (by omega) (by omega)) ⟨f78 21 (by omega) (by omega) (by omega), f78 23 (by omega) (by omega) (by omega), f78 24 (by omega) (by omega) (by omega)⟩, I6_of Q.2.2.2.2.2 (fun k hk => e k (by omega) (by omega))⟩
    have g3 : sup (sup S 0 (jup (jup (S 0) 6 s) 7 l)) 78 (jup (jup (jup (S 78) 0 0) 3 s) 4 l) 78 3 = s := by rw [sup_same, jup_ne _ _ (by omega), jup_same]
    have g4 : sup (sup S 0 (jup (jup (S 0) 6 s) 7 l)) 78 (jup (jup (jup (S 78) 0 0) 3 s) 4 l) 78 4 = l := by rw [sup_same, jup_same]
    have g6 : sup (sup S 0 (jup (jup (S 0) 6 s) 7 l)) 78 (jup (jup (jup (S 78) 0 0) 3 s) 4 l) 0 6 = s := by rw [sup_ne _ _ (by omega), sup_same, jup_ne _ _ (by omega), jup_same]
    have g7 : sup (sup S 0 (jup (jup (S 0) 6 s) 7 l)) 78 (jup (jup (jup (S 78) 0 0) 3 s) 4 l) 0 7 = l := by rw [sup_ne _ _ (by omega), sup_same, jup_same]
    unfold I3
    rw [g3, g4, g6, g7]
    exact ⟨⟨rfl, rfl⟩, c1⟩
  · rw [if_neg c1] at pc
    have H1 := H.new (xO' 9 []) 6
    have qc := q_grey hW H1 hs hl
    rw [if_neg c1] at qc
    exact ⟨1, _, _, _, _, _, _, w_grey_x9 hW H pc, H1, qc, H1.th 1, INV_th Q 1, ⟨by rw [sup_same, jup_same], by omega⟩, ⟨Nat.le_refl _, Nat.le_refl _⟩, rfl⟩
theorem usd_sh {C D : Nat → Int} {s : Nat} {g : Nat → Bool} : ∀ (n k : Nat) (g : Nat → Bool), (∀ j, k ≤ j → j < k + n → C j = D (s + j)) → usd C n (k : Int) g = usd D n ((s + k : Nat) : Int) g
  | 0, _, _, _ => rfl
  | n + 1, k, g, h => by
    simp only [usd]
    rw [Int.toNat_natCast, Int.toNat_natCast, h k (by omega) (by omega)]
    exact usd_sh (s := s) (g := g) n (k + 1) _ (fun j h1 h2 => h j (by omega) (by omega))
theorem cntB_cg {f g : Nat → Bool} (h : ∀ c, f c = g c) : ∀ (n k : Nat), cntB f n k = cntB g n k
  | 0, _ => rfl
  | n + 1, k => by simp only [cntB]; rw [h k, cntB_cg h n (k + 1)]
theorem clF_rng {s l : Int} (hs : 0 ≤ s ∧ s ≤ 100) (hl : 200 ≤ l ∧ l ≤ 1020) : ∀ (n : Nat) (c : Int) (A : Nat → Int), 0 ≤ c → c + n ≤ 64 → (∀ j, j < 512 → 0 ≤ A j ∧ A j ≤ 255) → ∀ j, j < 512 → 0 ≤ clF s l n c A j ∧ clF s l n c A j ≤ 255
  | 0, _, _, _, _, h => h
  | n + 1, c, A, h0, h1, h => clF_rng hs hl n (c + 1) _ (by omega) (by omega) (klm_rng (by omega) hl (mtb_rng (by omega) hs h))
end OBS
