section OCS
variable {V : Nat → Value} {W : xWt} {N : Nat} {h : xH} {S : Nat → Nat → Int} {T : Nat → Nat → Int64}
theorem sepS_ne {p : Nat} {s l : Int} {k : Nat} (h1 : k ≠ 8 + 4 * p ∧ k ≠ 9 + 4 * p ∧ k ≠ 10 + 4 * p ∧ k ≠ 11 + 4 * p) : sepS S p s l k = S k := by
  unfold sepS
  rw [sup_ne _ _ h1.1, sup_ne _ _ h1.2.2.2, sup_ne _ _ h1.2.2.1, sup_ne _ _ h1.2.2.2, sup_ne _ _ h1.2.1]
theorem sepS_8 {p : Nat} {s l : Int} : sepS S p s l (8 + 4 * p) = jup (jup (S (8 + 4 * p)) 3 1) 4 0 := by unfold sepS; rw [sup_same]
theorem sepS_9 {p : Nat} {s l : Int} : sepS S p s l (9 + 4 * p) = jcp (S (3 + p)) (S (9 + 4 * p)) 3072 := by
  unfold sepS
  rw [sup_ne _ _ (by omega), sup_ne _ _ (by omega), sup_ne _ _ (by omega), sup_ne _ _ (by omega), sup_same]
theorem sepS_10 {p : Nat} {s l : Int} : sepS S p s l (10 + 4 * p) = fillF (-1) 3072 0 (S (10 + 4 * p)) := by
  unfold sepS
  rw [sup_ne _ _ (by omega), sup_ne _ _ (by omega), sup_same]
theorem sepS_11 {p : Nat} {s l : Int} : sepS S p s l (11 + 4 * p) = clF s l 64 0 (jcp (S 1) (S (11 + 4 * p)) 512) := by
  unfold sepS
  rw [sup_ne _ _ (by omega), sup_same]
theorem o_separate (hW : xFix V W) (H : HP N h S T) (Q : INV S) {p : Int} (hp : j32 p) : OPK N h (W m_Law_separate (0, [some (.ref N), some (.int (Int32.ofInt p)), some (.ref (N + 101)), none], []) h) (fun h1 => W m_Mod_separate (0, [some (.ref (N + 78)), some (.int (Int32.ofInt p)), none, none], []) h1) := by
  obtain ⟨i1, i2, ⟨⟨q1, q2⟩, q3, q4⟩, i4, i5, i6⟩ := id Q
  have pc := p_separate hW H hp (by omega) (by omega) Q.a1 Q.p3
  by_cases c1 : 0 ≤ p ∧ p < 4
  · rw [if_pos c1] at pc
    obtain ⟨h1, e1, H1, s1⟩ := pc
    have hp4 : p.toNat < 4 := by omega
    have ep : ((p.toNat : Nat) : Int) = p := by omega
    have jc : ∀ j, j < 3072 → jcp (S (3 + p.toNat)) (S (9 + 4 * p.toNat)) 3072 j = S 80 (3072 * p.toNat + j) ∧ 0 ≤ S 80 (3072 * p.toNat + j) ∧ S 80 (3072 * p.toNat + j) < 64 := fun j hj => by
      unfold jcp; rw [if_pos hj]; exact i2 p.toNat hp4 j hj
    have ja : ∀ j, j < 512 → jcp (S 1) (S (11 + 4 * p.toNat)) 512 j = S 79 j ∧ 0 ≤ S 79 j ∧ S 79 j ≤ 255 := fun j hj => by
      unfold jcp; rw [if_pos hj]; exact i1 j hj
    refine op_ok H1 s1 (w_separate_ok hW H e1 H1) (fun T' h' H' => ?_)
    have e78 : sepS S p.toNat (S 0 6) (S 0 7) 78 = S 78 := sepS_ne (by omega)
    have e79 : sepS S p.toNat (S 0 6) (S 0 7) 79 = S 79 := sepS_ne (by omega)
    have e80 : sepS S p.toNat (S 0 6) (S 0 7) 80 = S 80 := sepS_ne (by omega)
    have qc := q_separate hW H' hp (by rw [e78]; exact q3) (by rw [e78]; exact q4) (by rw [e79]; exact Q.a79) (by rw [e80]; exact Q.p80)
    rw [if_pos c1] at qc
    obtain ⟨h2, S2, r1, r2, r3, r4, r5, r6, r7, r8, r9, r10, r11⟩ := qc
    rw [e78] at r5
    rw [e78, e79] at r8
    rw [e80] at r1 r10
    have ev : ((cntB (usd (S 80) 3072 (3072 * p) (fun _ => false)) 64 0 : Nat) : Int) = ((pop 64 (uN (orL (jcp (S (3 + p.toNat)) (S (9 + 4 * p.toNat)) 3072) 3072 0 0)) : Nat) : Int) := by
      refine congrArg (fun n : Nat => (n : Int)) ?_
      have t := pop_cnt (uN (orL (jcp (S (3 + p.toNat)) (S (9 + 4 * p.toNat)) 3072) 3072 0 0)) 64 0
      rw [Nat.pow_zero, Nat.div_one] at t
      rw [t]
      have u := orL_usd (C := jcp (S (3 + p.toNat)) (S (9 + 4 * p.toNat)) 3072) (m := 3072) (fun j hj => by have := jc j hj; omega) 3072 0 0 (fun _ => false) (by omega) (by omega) (fun c => by rw [show uN 0 = 0 from rfl, Nat.zero_testBit])
      have sh := usd_sh (C := jcp (S (3 + p.toNat)) (S (9 + 4 * p.toNat)) 3072) (D := S 80) (s := 3072 * p.toNat) (g := fun _ => false) 3072 0 (fun _ => false) (fun j _ hj => (jc j (by omega)).1)
      rw [show ((0 : Nat) : Int) = 0 from rfl, show ((3072 * p.toNat + 0 : Nat) : Int) = 3072 * p by omega] at sh
      rw [sh] at u
      exact (cntB_cg u 64 0).symm
    rw [ev] at r1
    have eo : ∀ k, k ≠ 78 → (k < 8 ∨ (24 ≤ k ∧ k < 81) ∨ 87 < k) → S2 k = S k := fun k k1 k2 => by rw [r4 k k1 (by omega), sepS_ne (by omega)]
    have f78 : ∀ q, q ≠ 0 → S2 78 q = S 78 q := fun q hq => by rw [r5, jup_ne _ _ hq]
    have ej : ∀ k, 8 ≤ k → k < 24 → S2 k = sepS S p.toNat (S 0 6) (S 0 7) k := fun k k1 k2 => r4 k (by omega) (by omega)
    refine ⟨h2, S2, r1, r2, ⟨I1_of i1 (fun k hk => eo k (by omega) (by omega)), I2_of i2 (fun k hk => eo k (by omega) (by omega)), I3_of ⟨⟨q1, q2⟩, q3, q4⟩ (eo 0 (by omega) (by omega)) ⟨f78 3 (by omega), f78 4 (by omega)⟩, fun q hq => ?_, SR_of i5 (fun k hk => eo k (by omega) (by omega)) ⟨f78 21 (by omega), f78 23 (by omega), f78 24 (by omega)⟩, I6_of i6 (fun k hk => eo k (by omega) (by omega))⟩, by rw [r5, jup_same], r3⟩
    rw [ej (8 + 4 * q) (by omega) (by omega), r6, r7]
    by_cases eq : q = p.toNat
    · subst eq
      rw [sepS_8, jup_same, jup_same, jup_ne _ _ (by omega), jup_same, jup_same]
      refine ⟨⟨rfl, rfl⟩, Or.inr rfl, Or.inl rfl, fun _ => ⟨fun j hj => ?_, fun j hj => ?_, fun j hj => ?_⟩, fun _ _ j hj => (r10 _ (by omega) (by omega)).2⟩
      · rw [ej _ (by omega) (by omega), sepS_9, (r10 _ (by omega) (by omega)).1]; exact jc j hj
      · rw [ej _ (by omega) (by omega), sepS_10, (r10 _ (by omega) (by omega)).2, fill_at 3072 0 _ j (by omega) (Or.inl (by omega))]; omega
      · have A' : ∀ j, j < 512 → 0 ≤ jcp (S 1) (S (11 + 4 * p.toNat)) 512 j ∧ jcp (S 1) (S (11 + 4 * p.toNat)) 512 j ≤ 255 := fun j hj => by have := ja j hj; omega
        have rg := clF_rng (s := S 0 6) (l := S 0 7) (by omega) (by omega) 64 0 _ (by omega) (by omega) A' j hj
        have at' := clF_at (s := S 0 6) (l := S 0 7) (by omega) (by omega) 64 0 _ (by omega) (by omega) A' j hj
        rw [if_pos (by omega)] at at'
        have e8 : S2 84 (512 * p.toNat + j) = clF (S 0 6) (S 0 7) 64 0 (jcp (S 1) (S (11 + 4 * p.toNat)) 512) j := by
          rw [r8 j hj, at', q1, q2]
          exact sepA_congr (by omega) (by omega) (fun q h1 h2 => (ja q (by omega)).1.symm)
        rw [ej _ (by omega) (by omega), sepS_11, e8]
        exact ⟨rfl, rg⟩
    · obtain ⟨b1, b2, b3, b4, b5⟩ := i4 q hq
      rw [sepS_ne (by omega), jup_ne _ _ eq, jup_ne _ _ eq]
      rw [show sepS S p.toNat (S 0 6) (S 0 7) 81 = S 81 from sepS_ne (by omega), show sepS S p.toNat (S 0 6) (S 0 7) 82 = S 82 from sepS_ne (by omega)]
      have g : ∀ j, j < 3072 → S2 83 (3072 * q + j) = S 83 (3072 * q + j) ∧ S2 85 (3072 * q + j) = S 85 (3072 * q + j) := fun j hj => by
        have := r11 (3072 * q + j) (by omega)
        rw [this.1, this.2, sepS_ne (by omega), sepS_ne (by omega)]; exact ⟨rfl, rfl⟩
      refine ⟨b1, b2, b3, fun z => ?_, fun z1 z2 j hj => by rw [(g j hj).2]; exact b5 z1 z2 j hj⟩
      obtain ⟨j1, j2, j3⟩ := b4 z
      refine ⟨fun j hj => ?_, fun j hj => ?_, fun j hj => ?_⟩
      · rw [ej _ (by omega) (by omega), sepS_ne (by omega), (g j hj).1]; exact j1 j hj
      · rw [ej _ (by omega) (by omega), sepS_ne (by omega), (g j hj).2]; exact j2 j hj
      · rw [ej _ (by omega) (by omega), sepS_ne (by omega), r9 _ (by omega), sepS_ne (by omega)]; exact j3 j hj
  · rw [if_neg c1] at pc
    refine op_ex H Q (by omega) (w_separate_x8 hW H pc) (fun h' H' => ?_)
    have qc := q_separate hW H' hp q3 q4 Q.a79 Q.p80
    rw [if_neg c1] at qc
    exact qc
theorem cq_m1 : ∀ (n k : Nat), cq (fun _ => -1) n k = 0
  | 0, _ => rfl
  | n + 1, k => by simp only [cq]; rw [cq_m1 n (k + 1)]; rfl
theorem o_trap (hW : xFix V W) (H : HP N h S T) (Q : INV S) {B : Nat → Int} {a : Nat} (haN : a < N) (hv : V 0 = .ref a) (hB : ∀ j, j < 8 → B j = B0 j) (hb : h.1 a = some (jA 3 8 B)) {p w : Int} (hp : j32 p) (hw : j32 w) : OPK N h (W m_Law_trap (0, [some (.ref N), some (.int (Int32.ofInt p)), some (.int (Int32.ofInt w)), some (.ref (N + 101)), none], []) h) (fun h1 => W m_Mod_trap (0, [some (.ref (N + 78)), some (.int (Int32.ofInt p)), some (.int (Int32.ofInt w)), none, none, none, none], []) h1) := by
  obtain ⟨i1, i2, i3, i4, i5, i6⟩ := id Q
  have hB' : ∀ j, j < 8 → 0 ≤ B j ∧ B j ≤ 100 := fun j hj => by rw [hB j hj]; unfold B0; repeat' split <;> omega
  have hm1 : ∀ q, q < 4 → (S (8 + 4 * q) 3 = 0 ∨ S (8 + 4 * q) 3 = 1) ∧ (S (8 + 4 * q) 4 = 0 ∨ S (8 + 4 * q) 4 = 1) := fun q hq => by
    obtain ⟨b1, b2, b3, -⟩ := i4 q hq
    rw [b1.1, b1.2]; exact ⟨b2, b3⟩
  have hm2 : ∀ q, q < 4 → (S 81 q = 0 ∨ S 81 q = 1) ∧ (S 82 q = 0 ∨ S 82 q = 1) := fun q hq => ⟨(i4 q hq).2.1, (i4 q hq).2.2.1⟩
  have hJ2 : ∀ q, q < 4 → S 81 q = 1 → (∀ j, j < 3072 → 0 ≤ S 83 (3072 * q + j) ∧ S 83 (3072 * q + j) < 64) ∧ ∀ j, j < 512 → 0 ≤ S 84 (512 * q + j) ∧ S 84 (512 * q + j) ≤ 255 := fun q hq e => by
    have J := Q.j81 q hq e
    exact ⟨fun j hj => (J.1 j hj).2, fun j hj => (J.2.2 j hj).2⟩
  have pc := p_trap hW hp hw haN hv hB' H hb hm1 Q.j3
  by_cases c1 : 0 ≤ p ∧ p < 4
  · rw [if_pos c1] at pc
    by_cases c2 : 1 ≤ w ∧ w ≤ 3
    · rw [if_pos c2] at pc
      obtain ⟨b1, b2, b3, b4, b5⟩ := i4 p.toNat (by omega)
      by_cases c3 : S 81 p.toNat = 1 ∧ S 82 p.toNat = 0
      · rw [if_pos (by rw [b1.1, b1.2]; exact c3)] at pc
        obtain ⟨h1, Sa, Ta, e1, H1, s1, e2, e3, e4, e5⟩ := pc
        have J := b4 c3.1
        have z0 := b5 c3.1 c3.2
        have ep : ((p.toNat : Nat) : Int) = p := by omega
        have L0 : ∀ q, q < 3072 → S (10 + 4 * p.toNat) q = -1 := fun q hq => by have := (J.2.1 q hq).1; rw [z0 q hq] at this; omega
        have sa : ∀ k, 24 ≤ k → k ≠ 25 → k ≠ 26 → Sa k = S k := fun k k1 k2 k3 => e2 k k2 k3 (by omega) (by omega)
        have qf : ∀ (T' : Nat → Nat → Int64) (h' : xH), HP N h' Sa T' → ∃ (h2 : xH) (Sb : Nat → Nat → Int), W m_Mod_trap (0, [some (.ref (N + 78)), some (.int (Int32.ofInt p)), some (.int (Int32.ofInt w)), none, none, none, none], []) h' = some (.inl (some (jI (cq (Sa (10 + 4 * p.toNat)) 3072 0 - cq (S (10 + 4 * p.toNat)) 3072 0))), h2) ∧ HP N h2 Sb T' ∧ INV Sb ∧ Sb 78 0 = 0 ∧ h2.2 = h'.2 := by
          intro T' h' H'
          have qc := q_trap hW hp hw H' (by rw [sa 81 (by omega) (by omega) (by omega), sa 82 (by omega) (by omega) (by omega)]; exact hm2) (by rw [sa 81 (by omega) (by omega) (by omega), sa 83 (by omega) (by omega) (by omega), sa 84 (by omega) (by omega) (by omega)]; exact hJ2)
          rw [if_pos c1, if_pos c2, sa 81 (by omega) (by omega) (by omega), sa 82 (by omega) (by omega) (by omega), if_pos c3] at qc
          obtain ⟨h2, Sb, r1, r2, r3, r4, r5, r6, r7, r8⟩ := qc
          rw [sa 83 (by omega) (by omega) (by omega)] at r8
          rw [sa 85 (by omega) (by omega) (by omega)] at r7
          have qm : ∀ o, QM Sa p o = QM S p o := fun o => by unfold QM; rw [sa 84 (by omega) (by omega) (by omega)]
          have eqc : ∀ q, q < 3072 → Sa (10 + 4 * p.toNat) q = Sb 85 (3072 * p.toNat + q) - 1 := fun q hq => by
            have t := r8 ((q / 48 : Nat) : Int) ((q % 48 : Nat) : Int) (by omega) (by omega) (by omega) (by omega)
            rw [qm] at t
            have ix : (48 * ((q / 48 : Nat) : Int) + ((q % 48 : Nat) : Int)).toNat = q := by omega
            have iy : (3072 * p + 48 * ((q / 48 : Nat) : Int) + ((q % 48 : Nat) : Int)).toNat = 3072 * p.toNat + q := by omega
            rw [iy] at t
            have := trap_cell (S := S) (p := p.toNat) J hB e5 (x := ((q % 48 : Nat) : Int)) (y := ((q / 48 : Nat) : Int)) (by omega) (by omega) (by rw [ix]; exact L0 q hq) (v := Sb 85 (3072 * p.toNat + q) - 1) (by rw [ix, ep]; exact t)
            rw [ix] at this
            exact this
          have cz : cq (S (10 + 4 * p.toNat)) 3072 0 = 0 := by rw [cq_congr 3072 0 (F' := fun _ => -1) (fun q _ hq => L0 q (by omega))]; exact cq_m1 _ _
          have ce : cq (fun q => Sb 85 (3072 * p.toNat + q) - 1) 3072 0 = cq (Sa (10 + 4 * p.toNat)) 3072 0 - cq (S (10 + 4 * p.toNat)) 3072 0 := by
            rw [cz, Int.sub_zero]; exact cq_congr 3072 0 (fun q _ hq => (eqc q (by omega)).symm)
          rw [ce] at r1
          have eo : ∀ k, k ≠ 78 → k ≠ 82 → k ≠ 85 → k ≠ 25 → k ≠ 26 → k ≠ 8 + 4 * p.toNat → k ≠ 10 + 4 * p.toNat → Sb k = S k := fun k k1 k2 k3 k4 k5 k6 k7 => by rw [r4 k k1 k2 k3, e2 k k4 k5 k6 k7]
          have f78 : ∀ q, q ≠ 0 → Sb 78 q = S 78 q := fun q hq => by rw [r5, jup_ne _ _ hq, sa 78 (by omega) (by omega) (by omega)]
          refine ⟨h2, Sb, r1, r2, ⟨I1_of i1 (fun k hk => eo k (by omega) (by omega) (by omega) (by omega) (by omega) (by omega) (by omega)), I2_of i2 (fun k hk => eo k (by omega) (by omega) (by omega) (by omega) (by omega) (by omega) (by omega)), I3_of i3 (eo 0 (by omega) (by omega) (by omega) (by omega) (by omega) (by omega) (by omega)) ⟨f78 3 (by omega), f78 4 (by omega)⟩, fun q hq => ?_, SR_of i5 (fun k hk => eo k (by omega) (by omega) (by omega) (by omega) (by omega) (by omega) (by omega)) ⟨f78 21 (by omega), f78 23 (by omega), f78 24 (by omega)⟩, I6_of i6 (fun k hk => eo k (by omega) (by omega) (by omega) (by omega) (by omega) (by omega) (by omega))⟩, by rw [r5, jup_same], r3⟩
          rw [eo 81 (by omega) (by omega) (by omega) (by omega) (by omega) (by omega) (by omega), r6]
          by_cases eq : q = p.toNat
          · subst eq
            rw [r4 (8 + 4 * p.toNat) (by omega) (by omega) (by omega), e3, jup_same, jup_same, jup_ne _ _ (by omega)]
            refine ⟨⟨b1.1, rfl⟩, b2, Or.inr rfl, fun _ => ⟨fun j hj => ?_, fun j hj => ?_, fun j hj => ?_⟩, fun _ z => absurd z (by omega)⟩
            · rw [eo _ (by omega) (by omega) (by omega) (by omega) (by omega) (by omega) (by omega), eo 83 (by omega) (by omega) (by omega) (by omega) (by omega) (by omega) (by omega)]; exact J.1 j hj
            · rw [r4 (10 + 4 * p.toNat) (by omega) (by omega) (by omega)]
              have := e4 j hj
              have := eqc j hj
              omega
            · rw [eo _ (by omega) (by omega) (by omega) (by omega) (by omega) (by omega) (by omega), eo 84 (by omega) (by omega) (by omega) (by omega) (by omega) (by omega) (by omega)]; exact J.2.2 j hj
          · obtain ⟨d1, d2, d3, d4, d5⟩ := i4 q hq
            have g : ∀ j, j < 3072 → Sb 85 (3072 * q + j) = S 85 (3072 * q + j) := fun j hj => r7 _ (by omega)
            rw [eo (8 + 4 * q) (by omega) (by omega) (by omega) (by omega) (by omega) (by omega) (by omega), jup_ne _ _ eq]
            refine ⟨d1, d2, d3, fun z => ?_, fun z1 z2 j hj => by rw [g j hj]; exact d5 z1 z2 j hj⟩
            obtain ⟨j1, j2, j3⟩ := d4 z
            refine ⟨fun j hj => ?_, fun j hj => ?_, fun j hj => ?_⟩
            · rw [eo _ (by omega) (by omega) (by omega) (by omega) (by omega) (by omega) (by omega), eo 83 (by omega) (by omega) (by omega) (by omega) (by omega) (by omega) (by omega)]; exact j1 j hj
            · rw [eo _ (by omega) (by omega) (by omega) (by omega) (by omega) (by omega) (by omega), g j hj]; exact j2 j hj
            · rw [eo _ (by omega) (by omega) (by omega) (by omega) (by omega) (by omega) (by omega), eo 84 (by omega) (by omega) (by omega) (by omega) (by omega) (by omega) (by omega)]; exact j3 j hj
        exact op_ok H1 s1 (w_trap_ok hW H e1 H1) qf
      · rw [if_neg (by rw [b1.1, b1.2]; exact c3)] at pc
        refine op_ex H Q (by omega) (w_trap_x10 hW H pc) (fun h' H' => ?_)
        have qc := q_trap hW hp hw H' hm2 hJ2
        rw [if_pos c1, if_pos c2, if_neg c3] at qc
        exact qc
    · rw [if_neg c2] at pc
      refine op_ex H Q (by omega) (w_trap_x9 hW H pc) (fun h' H' => ?_)
      have qc := q_trap hW hp hw H' hm2 hJ2
      rw [if_pos c1, if_neg c2] at qc
      exact qc
  · rw [if_neg c1] at pc
    refine op_ex H Q (by omega) (w_trap_x8 hW H pc) (fun h' H' => ?_)
    have qc := q_trap hW hp hw H' hm2 hJ2
    rw [if_neg c1] at qc
    exact qc
end OCS
