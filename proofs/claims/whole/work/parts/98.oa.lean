/-! one call on both sides, the answers that only read -/
section OAS
variable {V : Nat → Value} {W : xWt} {N : Nat} {h : xH} {S : Nat → Nat → Int} {T : Nat → Nat → Int64}
theorem spot_cg {F G : Nat → Int} {c i : Int} : ∀ (n : Nat) (k : Int), (∀ j, j < 512 → F j = G j) → 0 ≤ c → c < 64 → 4 ≤ k → k + n ≤ 8 → spot F c i n k = spot G c i n k
  | 0, _, _, _, _, _, _ => rfl
  | n + 1, k, h, h1, h2, h3, h4 => by
    simp only [spot]
    rw [h (c * 8 + k).toNat (by omega), spot_cg n (k + 1) h h1 h2 (by omega) (by omega)]
theorem INV.a1 (Q : INV S) : ∀ j, j < 512 → 0 ≤ S 1 j ∧ S 1 j ≤ 255 := fun j hj => by have := Q.1 j hj; omega
theorem INV.a79 (Q : INV S) : ∀ j, j < 512 → 0 ≤ S 79 j ∧ S 79 j ≤ 255 := fun j hj => (Q.1 j hj).2
theorem INV.p3 (Q : INV S) : ∀ k, k < 4 → ∀ j, j < 3072 → 0 ≤ S (3 + k) j ∧ S (3 + k) j < 64 := fun k hk j hj => by have := Q.2.1 k hk j hj; omega
theorem INV.p80 (Q : INV S) : ∀ j, j < 12288 → 0 ≤ S 80 j ∧ S 80 j < 64 := fun j hj => by
  have := Q.2.1 (j / 3072) (by omega) (j % 3072) (by omega)
  rw [show 3072 * (j / 3072) + j % 3072 = j by omega] at this
  exact this.2
theorem INV.m3 (Q : INV S) : ∀ q, q < 4 → S (8 + 4 * q) 3 = 0 ∨ S (8 + 4 * q) 3 = 1 := fun q hq => by have := Q.2.2.2.1 q hq; rw [this.1.1]; exact this.2.1
theorem INV.m81 (Q : INV S) : ∀ q, q < 4 → S 81 q = 0 ∨ S 81 q = 1 := fun q hq => (Q.2.2.2.1 q hq).2.1
theorem INV.j3 (Q : INV S) : ∀ q, q < 4 → S (8 + 4 * q) 3 = 1 → JR S q := fun q hq e => by have := Q.2.2.2.1 q hq; rw [this.1.1] at e; exact this.2.2.2.1 e
theorem INV.j81 (Q : INV S) : ∀ q, q < 4 → S 81 q = 1 → JR S q := fun q hq e => (Q.2.2.2.1 q hq).2.2.2.1 e
theorem INV.sc (Q : INV S) : ∀ i, i < 8 → SCi S i := fun i hi => (Q.2.2.2.2.2.2 i hi).1
theorem INV.kn (Q : INV S) : ∀ i, i < 8 → KNi S i := fun i hi => (Q.2.2.2.2.2.2 i hi).2
theorem q_end {Mr : Option xR} {h' : xH} {T' : Nat → Nat → Int64} {v : Int} (H' : HP N h' S T') (Q : INV S) (e : Mr = some (.inl (some (jI v)), hth N h' S T' 0)) : ∃ (h2 : xH) (Sb : Nat → Nat → Int), Mr = some (.inl (some (jI v)), h2) ∧ HP N h2 Sb T' ∧ INV Sb ∧ Sb 78 0 = 0 ∧ h2.2 = h'.2 :=
  ⟨_, _, e, H'.th 0, INV_th Q 0, by rw [sup_same, jup_same], rfl⟩
theorem q_endK {Mr : Option xR} {h' : xH} {T' : Nat → Nat → Int64} {v : Int} (Q : INV S) (e : ∃ (h2 : xH) (S' : Nat → Nat → Int), Mr = some (.inl (some (jI v)), h2) ∧ HP N h2 S' T' ∧ h2.2 = h'.2 ∧ KG (sup S 78 (jup (S 78) 0 0)) S') : ∃ (h2 : xH) (Sb : Nat → Nat → Int), Mr = some (.inl (some (jI v)), h2) ∧ HP N h2 Sb T' ∧ INV Sb ∧ Sb 78 0 = 0 ∧ h2.2 = h'.2 := by
  obtain ⟨h2, S', e1, e2, e3, e4⟩ := e
  exact ⟨h2, S', e1, e2, INV_KG (INV_th Q 0) e4, by rw [e4.2.1 0 (by omega) (by omega), sup_same, jup_same], e3⟩
theorem o_cell (hW : xFix V W) (H : HP N h S T) (Q : INV S) {p x y : Int} (hp : j32 p) (hx : j32 x) (hy : j32 y) : OPK N h (W m_Law_cell (0, [some (.ref N), some (.int (Int32.ofInt p)), some (.int (Int32.ofInt x)), some (.int (Int32.ofInt y)), some (.ref (N + 101)), none], []) h) (fun h1 => W m_Mod_cell (0, [some (.ref (N + 78)), some (.int (Int32.ofInt p)), some (.int (Int32.ofInt x)), some (.int (Int32.ofInt y))], []) h1) := by
  have pc := p_cell hW H hp hx hy
  by_cases c1 : (0 ≤ p ∧ p < 4) ∧ (0 ≤ x ∧ x < 48) ∧ (0 ≤ y ∧ y < 64)
  · rw [if_pos c1] at pc
    refine op_ok H rfl (w_cell_ok hW H pc H) (fun T' h' H' => ?_)
    have qc := q_cell hW H' hp hx hy
    rw [if_pos c1] at qc
    have := (Q.2.1 p.toNat (by omega) (y * 48 + x).toNat (by omega)).1
    rw [this, show 3072 * p.toNat + (y * 48 + x).toNat = (3072 * p + 48 * y + x).toNat by omega]
    exact q_end H' Q qc
  · rw [if_neg c1] at pc
    refine op_ex H Q (by omega) (w_cell_x8 hW H pc) (fun h1 H1 => ?_)
    have qc := q_cell hW H1 hp hx hy
    rw [if_neg c1] at qc
    exact qc
theorem o_plate (hW : xFix V W) (H : HP N h S T) (Q : INV S) {p i x y : Int} (hp : j32 p) (hi : j32 i) (hx : j32 x) (hy : j32 y) : OPK N h (W m_Law_plate (0, [some (.ref N), some (.int (Int32.ofInt p)), some (.int (Int32.ofInt i)), some (.int (Int32.ofInt x)), some (.int (Int32.ofInt y)), some (.ref (N + 101)), none], []) h) (fun h1 => W m_Mod_plate (0, [some (.ref (N + 78)), some (.int (Int32.ofInt p)), some (.int (Int32.ofInt i)), some (.int (Int32.ofInt x)), some (.int (Int32.ofInt y))], []) h1) := by
  have pc := p_plate hW H hp hi hx hy Q.m3 Q.j3
  by_cases c1 : ((0 ≤ p ∧ p < 4) ∧ (0 ≤ x ∧ x < 48) ∧ (0 ≤ y ∧ y < 64)) ∧ (0 ≤ i ∧ i < 8)
  · have e := (Q.2.2.2.1 p.toNat (by omega)).1.1
    rw [if_pos c1, e] at pc
    by_cases c2 : S 81 p.toNat = 1
    · rw [if_pos c2] at pc
      refine op_ok H rfl (w_plate_ok hW H pc H) (fun T' h' H' => ?_)
      have qc := q_plate hW H' hp hi hx hy Q.m81 Q.j81
      rw [if_pos c1, if_pos c2] at qc
      exact q_end H' Q qc
    · rw [if_neg c2] at pc
      refine op_ex H Q (by omega) (w_plate_x10 hW H pc) (fun h1 H1 => ?_)
      have qc := q_plate hW H1 hp hi hx hy Q.m81 Q.j81
      rw [if_pos c1, if_neg c2] at qc
      exact qc
  · rw [if_neg c1] at pc
    refine op_ex H Q (by omega) (w_plate_x8 hW H pc) (fun h1 H1 => ?_)
    have qc := q_plate hW H1 hp hi hx hy Q.m81 Q.j81
    rw [if_neg c1] at qc
    exact qc
theorem o_trapped (hW : xFix V W) (H : HP N h S T) (Q : INV S) {p x y : Int} (hp : j32 p) (hx : j32 x) (hy : j32 y) : OPK N h (W m_Law_trapped (0, [some (.ref N), some (.int (Int32.ofInt p)), some (.int (Int32.ofInt x)), some (.int (Int32.ofInt y)), some (.ref (N + 101)), none], []) h) (fun h1 => W m_Mod_trapped (0, [some (.ref (N + 78)), some (.int (Int32.ofInt p)), some (.int (Int32.ofInt x)), some (.int (Int32.ofInt y)), none], []) h1) := by
  have pc := p_trapped hW H hp hx hy Q.m3 Q.j3
  by_cases c1 : (0 ≤ p ∧ p < 4) ∧ (0 ≤ x ∧ x < 48) ∧ (0 ≤ y ∧ y < 64)
  · have e := (Q.2.2.2.1 p.toNat (by omega)).1.1
    rw [if_pos c1, e] at pc
    by_cases c2 : S 81 p.toNat = 1
    · rw [if_pos c2] at pc
      refine op_ok H rfl (w_trapped_ok hW H pc H) (fun T' h' H' => ?_)
      have qc := q_trapped hW H' hp hx hy Q.m81 Q.j81
      rw [if_pos c1, if_pos c2] at qc
      exact q_end H' Q qc
    · rw [if_neg c2] at pc
      refine op_ex H Q (by omega) (w_trapped_x10 hW H pc) (fun h1 H1 => ?_)
      have qc := q_trapped hW H1 hp hx hy Q.m81 Q.j81
      rw [if_pos c1, if_neg c2] at qc
      exact qc
  · rw [if_neg c1] at pc
    refine op_ex H Q (by omega) (w_trapped_x8 hW H pc) (fun h1 H1 => ?_)
    have qc := q_trapped hW H1 hp hx hy Q.m81 Q.j81
    rw [if_neg c1] at qc
    exact qc
theorem o_rank (hW : xFix V W) (H : HP N h S T) (Q : INV S) {i x y : Int} (hi : j32 i) (hx : j32 x) (hy : j32 y) : OPK N h (W m_Law_rank (0, [some (.ref N), some (.int (Int32.ofInt i)), some (.int (Int32.ofInt x)), some (.int (Int32.ofInt y)), some (.ref (N + 101)), none], []) h) (fun h1 => W m_Mod_rank (0, [some (.ref (N + 78)), some (.int (Int32.ofInt i)), some (.int (Int32.ofInt x)), some (.int (Int32.ofInt y))], []) h1) := by
  have pc := p_rank hW H Q.sc hi hx hy
  by_cases c1 : 0 ≤ i ∧ i < 8
  · rw [if_pos c1] at pc
    by_cases c2 : (-1000 ≤ x ∧ x ≤ 1000) ∧ (-1000 ≤ y ∧ y ≤ 1000)
    · rw [if_pos c2] at pc
      refine op_ok H rfl (w_rank_ok hW H pc H) (fun T' h' H' => ?_)
      have qc := q_rank hW H' Q.sc Q.kn hi hx hy
      rw [if_pos c1, if_pos c2] at qc
      exact q_endK Q qc
    · rw [if_neg c2] at pc
      refine op_ex H Q (by omega) (w_rank_x9 hW H pc) (fun h1 H1 => ?_)
      have qc := q_rank hW H1 Q.sc Q.kn hi hx hy
      rw [if_pos c1, if_neg c2] at qc
      exact qc
  · rw [if_neg c1] at pc
    refine op_ex H Q (by omega) (w_rank_x8 hW H pc) (fun h1 H1 => ?_)
    have qc := q_rank hW H1 Q.sc Q.kn hi hx hy
    rw [if_neg c1] at qc
    exact qc
theorem o_dot (hW : xFix V W) (H : HP N h S T) (Q : INV S) {p i x y : Int} (hp : j32 p) (hi : j32 i) (hx : j32 x) (hy : j32 y) : OPP N h (W m_Law_dot (0, [some (.ref N), some (.int (Int32.ofInt p)), some (.int (Int32.ofInt i)), some (.int (Int32.ofInt x)), some (.int (Int32.ofInt y)), some (.ref (N + 101)), none], []) h) (fun h1 => W m_Mod_dot (0, [some (.ref (N + 78)), some (.int (Int32.ofInt p)), some (.int (Int32.ofInt i)), some (.int (Int32.ofInt x)), some (.int (Int32.ofInt y))], []) h1) (fun v => v = 0 ∨ v = 1) := by
  have pc := p_dot hW H Q.sc hp hi hx hy Q.m3 Q.j3
  by_cases c1 : ((0 ≤ p ∧ p < 4) ∧ (0 ≤ x ∧ x < 48) ∧ (0 ≤ y ∧ y < 64)) ∧ (0 ≤ i ∧ i < 8)
  · have e := (Q.2.2.2.1 p.toNat (by omega)).1.1
    rw [if_pos c1, e] at pc
    by_cases c2 : S 81 p.toNat = 1
    · rw [if_pos c2] at pc
      have d01 : dotV S p i.toNat x y = 0 ∨ dotV S p i.toNat x y = 1 := by unfold dotV; split; exact Or.inr rfl; exact Or.inl rfl
      refine op_okP d01 H rfl (w_dot_ok hW H d01 pc H) (fun T' h' H' => ?_)
      have qc := q_dot hW H' Q.sc Q.kn hp hi hx hy Q.m81 Q.j81
      rw [if_pos c1, if_pos c2] at qc
      exact q_endK Q qc
    · rw [if_neg c2] at pc
      refine op_exP H Q (Or.inl rfl) (by omega) (w_dot_x10 hW H pc) (fun h1 H1 => ?_)
      have qc := q_dot hW H1 Q.sc Q.kn hp hi hx hy Q.m81 Q.j81
      rw [if_pos c1, if_neg c2] at qc
      exact qc
  · rw [if_neg c1] at pc
    refine op_exP H Q (Or.inl rfl) (by omega) (w_dot_x8 hW H pc) (fun h1 H1 => ?_)
    have qc := q_dot hW H1 Q.sc Q.kn hp hi hx hy Q.m81 Q.j81
    rw [if_neg c1] at qc
    exact qc
theorem o_share (hW : xFix V W) (H : HP N h S T) (Q : INV S) {p i x y : Int} (hp : j32 p) (hi : j32 i) (hx : j32 x) (hy : j32 y) : OPK N h (W m_Law_share (0, [some (.ref N), some (.int (Int32.ofInt p)), some (.int (Int32.ofInt i)), some (.int (Int32.ofInt x)), some (.int (Int32.ofInt y)), some (.ref (N + 101)), none], []) h) (fun h1 => W m_Mod_share (0, [some (.ref (N + 78)), some (.int (Int32.ofInt p)), some (.int (Int32.ofInt i)), some (.int (Int32.ofInt x)), some (.int (Int32.ofInt y)), none, none, none, none, none, none], []) h1) := by
  have pc := p_share hW H Q.sc hp hi hx hy Q.m3 Q.j3
  by_cases c1 : ((0 ≤ p ∧ p < 4) ∧ (0 ≤ x ∧ x < 48) ∧ (0 ≤ y ∧ y < 64)) ∧ (0 ≤ i ∧ i < 8)
  · have e := (Q.2.2.2.1 p.toNat (by omega)).1.1
    rw [if_pos c1, e] at pc
    by_cases c2 : S 81 p.toNat = 1
    · rw [if_pos c2] at pc
      refine op_ok H rfl (w_share_ok hW H pc H) (fun T' h' H' => ?_)
      have qc := q_share hW H' Q.sc Q.kn hp hi hx hy Q.m81 Q.j81
      rw [if_pos c1, if_pos c2] at qc
      exact q_endK Q qc
    · rw [if_neg c2] at pc
      refine op_ex H Q (by omega) (w_share_x10 hW H pc) (fun h1 H1 => ?_)
      have qc := q_share hW H1 Q.sc Q.kn hp hi hx hy Q.m81 Q.j81
      rw [if_pos c1, if_neg c2] at qc
      exact qc
  · rw [if_neg c1] at pc
    refine op_ex H Q (by omega) (w_share_x8 hW H pc) (fun h1 H1 => ?_)
    have qc := q_share hW H1 Q.sc Q.kn hp hi hx hy Q.m81 Q.j81
    rw [if_neg c1] at qc
    exact qc
theorem o_proof (hW : xFix V W) (H : HP N h S T) (Q : INV S) {p x y : Int} (hp : j32 p) (hx : j32 x) (hy : j32 y) : OPK N h (W m_Law_proof (0, [some (.ref N), some (.int (Int32.ofInt p)), some (.int (Int32.ofInt x)), some (.int (Int32.ofInt y)), some (.ref (N + 101)), none], []) h) (fun h1 => W m_Mod_proof (0, [some (.ref (N + 78)), some (.int (Int32.ofInt p)), some (.int (Int32.ofInt x)), some (.int (Int32.ofInt y)), none, none], []) h1) := by
  have pc := p_proof hW H Q.sc hp hx hy Q.m3 Q.j3
  by_cases c1 : (0 ≤ p ∧ p < 4) ∧ (0 ≤ x ∧ x < 48) ∧ (0 ≤ y ∧ y < 64)
  · have e := (Q.2.2.2.1 p.toNat (by omega)).1.1
    rw [if_pos c1, e] at pc
    by_cases c2 : S 81 p.toNat = 1
    · rw [if_pos c2] at pc
      refine op_ok H rfl (w_proof_ok hW H pc H) (fun T' h' H' => ?_)
      have qc := q_proof hW H' Q.sc Q.kn hp hx hy Q.m81 Q.j81
      rw [if_pos c1, if_pos c2] at qc
      exact q_endK Q qc
    · rw [if_neg c2] at pc
      refine op_ex H Q (by omega) (w_proof_x10 hW H pc) (fun h1 H1 => ?_)
      have qc := q_proof hW H1 Q.sc Q.kn hp hx hy Q.m81 Q.j81
      rw [if_pos c1, if_neg c2] at qc
      exact qc
  · rw [if_neg c1] at pc
    refine op_ex H Q (by omega) (w_proof_x8 hW H pc) (fun h1 H1 => ?_)
    have qc := q_proof hW H1 Q.sc Q.kn hp hx hy Q.m81 Q.j81
    rw [if_neg c1] at qc
    exact qc
theorem o_slot (hW : xFix V W) (H : HP N h S T) (Q : INV S) {a b c d : Int} (h1 : j32 a) (h2 : j32 b) (h3 : j32 c) (h4 : j32 d) : OPK N h (W m_Law_slot (0, [some (.ref N), some (.int (Int32.ofInt a)), some (.int (Int32.ofInt b)), some (.int (Int32.ofInt c)), some (.int (Int32.ofInt d)), some (.ref (N + 101)), none], []) h) (fun h1 => W m_Mod_slot (0, [some (.ref (N + 78)), some (.int (Int32.ofInt a)), some (.int (Int32.ofInt b)), some (.int (Int32.ofInt c)), some (.int (Int32.ofInt d)), none, none], []) h1) := by
  have pc := p_slot hW H Q.2.2.2.2.1 h1 h2 h3 h4
  by_cases c1 : S 78 21 = 0
  · rw [if_pos c1] at pc
    refine op_ex H Q (by omega) (w_slot_x10 hW H pc) (fun h' H' => ?_)
    have qc := q_slot hW H' Q.2.2.2.2.1 h1 h2 h3 h4
    rw [if_pos c1] at qc
    exact qc
  · rw [if_neg c1] at pc
    by_cases c2 : (0 ≤ a ∧ a < S 78 21) ∧ (0 ≤ b ∧ b < 2) ∧ (0 ≤ c ∧ c < S 78 23) ∧ (0 ≤ d ∧ d < 3)
    · rw [if_pos c2] at pc
      refine op_ok H rfl (w_slot_ok hW H pc H) (fun T' h' H' => ?_)
      have qc := q_slot hW H' Q.2.2.2.2.1 h1 h2 h3 h4
      rw [if_neg c1, if_pos c2] at qc
      exact q_end H' Q qc
    · rw [if_neg c2] at pc
      refine op_ex H Q (by omega) (w_slot_x8 hW H pc) (fun h' H' => ?_)
      have qc := q_slot hW H' Q.2.2.2.2.1 h1 h2 h3 h4
      rw [if_neg c1, if_neg c2] at qc
      exact qc
theorem o_read (hW : xFix V W) (H : HP N h S T) (Q : INV S) {a b : Int} (h1 : j32 a) (h2 : j32 b) : OPK N h (W m_Law_read (0, [some (.ref N), some (.int (Int32.ofInt a)), some (.int (Int32.ofInt b)), some (.ref (N + 101)), none], []) h) (fun h1 => W m_Mod_read (0, [some (.ref (N + 78)), some (.int (Int32.ofInt a)), some (.int (Int32.ofInt b)), none], []) h1) := by
  have pc := p_read hW H Q.2.2.2.2.1 h1 h2
  by_cases c1 : S 78 21 = 0
  · rw [if_pos c1] at pc
    refine op_ex H Q (by omega) (w_read_x10 hW H pc) (fun h' H' => ?_)
    have qc := q_read hW H' Q.2.2.2.2.1 h1 h2
    rw [if_pos c1] at qc
    exact qc
  · rw [if_neg c1] at pc
    by_cases c2 : (0 ≤ a ∧ a < 2 * S 78 23) ∧ (0 ≤ b ∧ b < 2)
    · rw [if_pos c2] at pc
      refine op_ok H rfl (w_read_ok hW H pc H) (fun T' h' H' => ?_)
      have qc := q_read hW H' Q.2.2.2.2.1 h1 h2
      rw [if_neg c1, if_pos c2] at qc
      exact q_end H' Q qc
    · rw [if_neg c2] at pc
      refine op_ex H Q (by omega) (w_read_x8 hW H pc) (fun h' H' => ?_)
      have qc := q_read hW H' Q.2.2.2.2.1 h1 h2
      rw [if_neg c1, if_neg c2] at qc
      exact qc
end OAS
