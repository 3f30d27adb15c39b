/-! the law's switch, its loop, and the whole of it -/
section SWS
variable {V : Nat → Value} {W : xWt}
theorem sw_all (y : Int32) : ∃ c : Nat, c < 16 ∧ y &&& 15 = Int32.ofInt (c : Int) := by
  have e : (y &&& 15).toBitVec.toNat = y.toBitVec.toNat % 16 := by
    rw [Int32.toBitVec_and, BitVec.toNat_and]
    exact Nat.and_two_pow_sub_one_eq_mod (y.toBitVec.toNat) 4
  refine ⟨y.toBitVec.toNat % 16, Nat.mod_lt _ (by omega), ?_⟩
  apply Int32.toBitVec_inj.mp
  apply BitVec.eq_of_toNat_eq
  rw [e]
  show _ = (BitVec.ofInt 32 ((y.toBitVec.toNat % 16 : Nat) : Int)).toNat
  rw [BitVec.toNat_ofInt]
  have := Nat.mod_lt y.toBitVec.toNat (show 16 > 0 by omega)
  omega
theorem sw_eq (hW : xFix V W) {y : Int32} {l : List (Option Value)} {h : xH} : W m_Law_law (37, l, [.int y]) h = (fun z : Int32 => if z.toInt < 0 ∨ 15 < z.toInt then W m_Law_law (1425, l, []) h else xS ((#[80, 160, 278, 358, 406, 462, 554, 622, 702, 794, 874, 973, 1065, 1145, 1225, 1317] : Array Int)[(z.toInt - 0).toNat]?) fun o => xN (((40 : Nat) : Int) + o < 0) (W m_Law_law ((((40 : Nat) : Int) + o).toNat, l, []) h)) (y &&& 15) := (xW_k hW 3 _ _ _).trans rfl
theorem sw_0 (hW : xFix V W) {y : Int32} {l : List (Option Value)} {h : xH} (e : y &&& 15 = Int32.ofInt 0) : W m_Law_law (37, l, [.int y]) h = W m_Law_law (120, l, []) h := by
  rw [sw_eq hW, e]
  rfl
theorem sw_1 (hW : xFix V W) {y : Int32} {l : List (Option Value)} {h : xH} (e : y &&& 15 = Int32.ofInt 1) : W m_Law_law (37, l, [.int y]) h = W m_Law_law (200, l, []) h := by
  rw [sw_eq hW, e]
  rfl
theorem sw_2 (hW : xFix V W) {y : Int32} {l : List (Option Value)} {h : xH} (e : y &&& 15 = Int32.ofInt 2) : W m_Law_law (37, l, [.int y]) h = W m_Law_law (318, l, []) h := by
  rw [sw_eq hW, e]
  rfl
theorem sw_3 (hW : xFix V W) {y : Int32} {l : List (Option Value)} {h : xH} (e : y &&& 15 = Int32.ofInt 3) : W m_Law_law (37, l, [.int y]) h = W m_Law_law (398, l, []) h := by
  rw [sw_eq hW, e]
  rfl
theorem sw_4 (hW : xFix V W) {y : Int32} {l : List (Option Value)} {h : xH} (e : y &&& 15 = Int32.ofInt 4) : W m_Law_law (37, l, [.int y]) h = W m_Law_law (446, l, []) h := by
  rw [sw_eq hW, e]
  rfl
theorem sw_5 (hW : xFix V W) {y : Int32} {l : List (Option Value)} {h : xH} (e : y &&& 15 = Int32.ofInt 5) : W m_Law_law (37, l, [.int y]) h = W m_Law_law (502, l, []) h := by
  rw [sw_eq hW, e]
  rfl
theorem sw_6 (hW : xFix V W) {y : Int32} {l : List (Option Value)} {h : xH} (e : y &&& 15 = Int32.ofInt 6) : W m_Law_law (37, l, [.int y]) h = W m_Law_law (594, l, []) h := by
  rw [sw_eq hW, e]
  rfl
theorem sw_7 (hW : xFix V W) {y : Int32} {l : List (Option Value)} {h : xH} (e : y &&& 15 = Int32.ofInt 7) : W m_Law_law (37, l, [.int y]) h = W m_Law_law (662, l, []) h := by
  rw [sw_eq hW, e]
  rfl
theorem sw_8 (hW : xFix V W) {y : Int32} {l : List (Option Value)} {h : xH} (e : y &&& 15 = Int32.ofInt 8) : W m_Law_law (37, l, [.int y]) h = W m_Law_law (742, l, []) h := by
  rw [sw_eq hW, e]
  rfl
theorem sw_9 (hW : xFix V W) {y : Int32} {l : List (Option Value)} {h : xH} (e : y &&& 15 = Int32.ofInt 9) : W m_Law_law (37, l, [.int y]) h = W m_Law_law (834, l, []) h := by
  rw [sw_eq hW, e]
  rfl
theorem sw_10 (hW : xFix V W) {y : Int32} {l : List (Option Value)} {h : xH} (e : y &&& 15 = Int32.ofInt 10) : W m_Law_law (37, l, [.int y]) h = W m_Law_law (914, l, []) h := by
  rw [sw_eq hW, e]
  rfl
theorem sw_11 (hW : xFix V W) {y : Int32} {l : List (Option Value)} {h : xH} (e : y &&& 15 = Int32.ofInt 11) : W m_Law_law (37, l, [.int y]) h = W m_Law_law (1013, l, []) h := by
  rw [sw_eq hW, e]
  rfl
theorem sw_12 (hW : xFix V W) {y : Int32} {l : List (Option Value)} {h : xH} (e : y &&& 15 = Int32.ofInt 12) : W m_Law_law (37, l, [.int y]) h = W m_Law_law (1105, l, []) h := by
  rw [sw_eq hW, e]
  rfl
theorem sw_13 (hW : xFix V W) {y : Int32} {l : List (Option Value)} {h : xH} (e : y &&& 15 = Int32.ofInt 13) : W m_Law_law (37, l, [.int y]) h = W m_Law_law (1185, l, []) h := by
  rw [sw_eq hW, e]
  rfl
theorem sw_14 (hW : xFix V W) {y : Int32} {l : List (Option Value)} {h : xH} (e : y &&& 15 = Int32.ofInt 14) : W m_Law_law (37, l, [.int y]) h = W m_Law_law (1265, l, []) h := by
  rw [sw_eq hW, e]
  rfl
theorem sw_15 (hW : xFix V W) {y : Int32} {l : List (Option Value)} {h : xH} (e : y &&& 15 = Int32.ofInt 15) : W m_Law_law (37, l, [.int y]) h = W m_Law_law (1357, l, []) h := by
  rw [sw_eq hW, e]
  rfl
end SWS
section LOS
variable {V : Nat → Value} {W : xWt} {N b a n : Nat} {F B : Nat → Int}
theorem law_it (hW : xFix V W) (hR : ∀ M f h r, W M f h = some r → xR0 h r.2) {h : xH} {S : Nat → Nat → Int} {T : Nat → Nat → Int64} {i : Int} {x5 x6 : Option Value} (H : HP N h S T) (Q : INV S) (bN : b < N) (aN : a < N) (hv : V 0 = .ref a) (hB : ∀ j, j < 8 → B j = B0 j) (hb : h.1 b = some (jA 3 n F)) (ha : h.1 a = some (jA 3 8 B)) (hF : ∀ k, j32 (F k)) (hn : n < 2147483648) (hi : 0 ≤ i ∧ i + 7 ≤ n) : ITR W N b a n F B i (W m_Law_law (23, [some (.ref b), some (.ref N), some (.ref (N + 78)), some (.ref (N + 101)), some (.int (Int32.ofInt i)), x5, x6], []) h) h := by
  obtain ⟨c, hc, e⟩ := sw_all (Int32.ofInt (F i.toNat))
  have st : W m_Law_law (23, [some (.ref b), some (.ref N), some (.ref (N + 78)), some (.ref (N + 101)), some (.int (Int32.ofInt i)), x5, x6], []) h = W m_Law_law (37, [some (.ref b), some (.ref N), some (.ref (N + 78)), some (.ref (N + 101)), some (.int (Int32.ofInt i)), x5, x6], [(.int (Int32.ofInt (F i.toNat)))]) h := by
    rw [L_Law_law_23 hW]
    simp (disch := omega) only [↓reduceIte, S0, S1, J_lt, J_le, J_eq, J_ldI, J_ldI3, J_ldB, J_ldL, J_ldR, J_stI, J_stB, J_stL, J_dv, j_gne, C0, CM, CP, CR, CJ, CS, CL, and_self, and_true, true_and, and_false, false_and, or_true, true_or, or_false, false_or, not_true_eq_false, not_false_eq_true, Option.map_some, J_ltT, J_ltF, J_leT, J_leF, J_eqT, J_eqF, J_ntT, J_ntF, E_Law_law hW, E_Law_law_p1 hW, E_Law_law_p2 hW, E_Law_law_p3 hW, E_Law_law_p4 hW, E_Law_law_p5 hW, E_Law_law_p6 hW, hb, j_aln]
  rw [st]
  have hc' : c = 0 ∨ c = 1 ∨ c = 2 ∨ c = 3 ∨ c = 4 ∨ c = 5 ∨ c = 6 ∨ c = 7 ∨ c = 8 ∨ c = 9 ∨ c = 10 ∨ c = 11 ∨ c = 12 ∨ c = 13 ∨ c = 14 ∨ c = 15 := by omega
  rcases hc' with rfl | rfl | rfl | rfl | rfl | rfl | rfl | rfl | rfl | rfl | rfl | rfl | rfl | rfl | rfl | rfl
  · rw [sw_0 hW e]; exact it_colour hW hR H Q bN aN hv hB hb ha hF hn hi
  · rw [sw_1 hW e]; exact it_box hW hR H Q bN aN hv hB hb ha hF hn hi
  · rw [sw_2 hW e]; exact it_cell hW hR H Q bN aN hv hB hb ha hF hn hi
  · rw [sw_3 hW e]; exact it_grey hW hR H Q bN aN hv hB hb ha hF hn hi
  · rw [sw_4 hW e]; exact it_separate hW hR H Q bN aN hv hB hb ha hF hn hi
  · rw [sw_5 hW e]; exact it_plate hW hR H Q bN aN hv hB hb ha hF hn hi
  · rw [sw_6 hW e]; exact it_trap hW hR H Q bN aN hv hB hb ha hF hn hi
  · rw [sw_7 hW e]; exact it_trapped hW hR H Q bN aN hv hB hb ha hF hn hi
  · rw [sw_8 hW e]; exact it_screen hW hR H Q bN aN hv hB hb ha hF hn hi
  · rw [sw_9 hW e]; exact it_rank hW hR H Q bN aN hv hB hb ha hF hn hi
  · rw [sw_10 hW e]; exact it_dot hW hR H Q bN aN hv hB hb ha hF hn hi
  · rw [sw_11 hW e]; exact it_share hW hR H Q bN aN hv hB hb ha hF hn hi
  · rw [sw_12 hW e]; exact it_proof hW hR H Q bN aN hv hB hb ha hF hn hi
  · rw [sw_13 hW e]; exact it_impose hW hR H Q bN aN hv hB hb ha hF hn hi
  · rw [sw_14 hW e]; exact it_slot hW hR H Q bN aN hv hB hb ha hF hn hi
  · rw [sw_15 hW e]; exact it_read hW hR H Q bN aN hv hB hb ha hF hn hi
theorem law_lp (hW : xFix V W) (hR : ∀ M f h r, W M f h = some r → xR0 h r.2) (bN : b < N) (aN : a < N) (hv : V 0 = .ref a) (hB : ∀ j, j < 8 → B j = B0 j) (hF : ∀ k, j32 (F k)) (hn : n < 2147483648) : ∀ (r : Nat) (i : Int) (h : xH) (S : Nat → Nat → Int) (T : Nat → Nat → Int64) (x5 x6 : Option Value), HP N h S T → INV S → h.1 b = some (jA 3 n F) → h.1 a = some (jA 3 8 B) → 0 ≤ i → i + 7 * r ≤ n → (n : Int) < i + 7 * r + 7 →
    ∃ hf : xH, W m_Law_law (23, [some (.ref b), some (.ref N), some (.ref (N + 78)), some (.ref (N + 101)), some (.int (Int32.ofInt i)), x5, x6], []) h = some (.inl (some (jI 1)), hf) ∧ hf.2.1 ≤ h.2.1 + r ∧ hf.2.2 ≤ h.2.2 + 6 * r := by
  intro r
  induction r with
  | zero =>
    intro i h S T x5 x6 H Q hb ha i0 i1 i2
    refine ⟨h, ?_, by omega, by omega⟩
    rw [L_Law_law_23 hW]
    simp (disch := omega) only [↓reduceIte, S0, S1, J_lt, J_le, J_eq, J_ldI, J_ldI3, J_ldB, J_ldL, J_ldR, J_stI, J_stB, J_stL, J_dv, j_gne, C0, CM, CP, CR, CJ, CS, CL, and_self, and_true, true_and, and_false, false_and, or_true, true_or, or_false, false_or, not_true_eq_false, not_false_eq_true, Option.map_some, J_ltT, J_ltF, J_leT, J_leF, J_eqT, J_eqF, J_ntT, J_ntF, E_Law_law hW, E_Law_law_p1 hW, E_Law_law_p2 hW, E_Law_law_p3 hW, E_Law_law_p4 hW, E_Law_law_p5 hW, E_Law_law_p6 hW, hb, j_aln]
  | succ r ih =>
    intro i h S T x5 x6 H Q hb ha i0 i1 i2
    obtain ⟨h', S', T', x5', x6', e1, H', Q', ⟨b', a'⟩, z1, z2⟩ := law_it hW hR (i := i) (x5 := x5) (x6 := x6) H Q bN aN hv hB hb ha hF hn (by omega)
    obtain ⟨hf, f1, f2, f3⟩ := ih (i + 7) h' S' T' x5' x6' H' Q' b' a' (by omega) (by omega) (by omega)
    exact ⟨hf, e1.trans f1, by omega, by omega⟩
end LOS
