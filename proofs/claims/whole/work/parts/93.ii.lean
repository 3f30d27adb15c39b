/-! the constructors that are straight runs -/
section IIS
variable {V : Nat → Value} {W : xWt} {N : Nat} {h : xH}
theorem i_Job (hW : xFix V W) {p : Nat} (hs : h.2.1 = N + (9 + 4 * p)) (o0 : h.1 (N + (8 + 4 * p)) = some (jO 1 (xF0 1))) :
    ∃ h' : xH, W m_Job_init (0, [some (.ref (N + (8 + 4 * p)))], []) h = some (.inl none, h') ∧ h'.2.1 = N + (12 + 4 * p) ∧ h'.2.2 = h.2.2 + 3072 + 3072 + 512 ∧ h'.1 (N + (8 + 4 * p)) = some (jO 1 [.ref (N + (9 + 4 * p)), .ref (N + (10 + 4 * p)), .ref (N + (11 + 4 * p)), jI 0, jI 0]) ∧ h'.1 (N + (9 + 4 * p)) = some (jA 0 3072 (fun _ => 0)) ∧ h'.1 (N + (10 + 4 * p)) = some (jA 0 3072 (fun _ => 0)) ∧ h'.1 (N + (11 + 4 * p)) = some (jA 0 512 (fun _ => 0)) ∧ ∀ o, o < N + (9 + 4 * p) → o ≠ N + (8 + 4 * p) → h'.1 o = h.1 o := by
  obtain ⟨h1, a1, s1, t1, n1, g1⟩ := b_mk (h := h) (a := N + (9 + 4 * p)) (by omega) 0 (z := 3072) (n := 3072) rfl (by omega)
  have o1 := (g1 (N + (8 + 4 * p)) (by omega)).trans o0
  obtain ⟨h2, a2, s2, o2, l2, g2⟩ := b_pu (h := h1) o1 (L := 5) rfl (b := 0) (kd := 2) (w := .ref (N + (9 + 4 * p))) rfl rfl
  have z2 := (congrArg Prod.fst s2).trans s1
  simp only [xF0, xupd] at o2
  obtain ⟨h3, a3, s3, t3, n3, g3⟩ := b_mk (h := h2) (a := N + (10 + 4 * p)) (by omega) 0 (z := 3072) (n := 3072) rfl (by omega)
  have o3 := (g3 (N + (8 + 4 * p)) (by omega)).trans o2
  obtain ⟨h4, a4, s4, o4, l4, g4⟩ := b_pu (h := h3) o3 (L := 5) rfl (b := 1) (kd := 2) (w := .ref (N + (10 + 4 * p))) rfl rfl
  have z4 := (congrArg Prod.fst s4).trans s3
  simp only [xF0, xupd] at o4
  obtain ⟨h5, a5, s5, t5, n5, g5⟩ := b_mk (h := h4) (a := N + (11 + 4 * p)) (by omega) 0 (z := 512) (n := 512) rfl (by omega)
  have o5 := (g5 (N + (8 + 4 * p)) (by omega)).trans o4
  obtain ⟨h6, a6, s6, o6, l6, g6⟩ := b_pu (h := h5) o5 (L := 5) rfl (b := 2) (kd := 2) (w := .ref (N + (11 + 4 * p))) rfl rfl
  have z6 := (congrArg Prod.fst s6).trans s5
  simp only [xF0, xupd] at o6
  refine ⟨h6, ?_, by omega, ?_, o6, ?_, ?_, ?_, fun o ho hne => ?_⟩
  · simp only [E_Job_init hW, S0, a1, a2, a3, a4, a5, a6]
  · rw [s6, t5, s4, t3, s2, t1]
  · simp (disch := omega) only [g6, g5, g4, g3, g2, n1]; rfl
  · simp (disch := omega) only [g6, g5, g4, n3]; rfl
  · simp (disch := omega) only [g6, n5]; rfl
  · simp (disch := omega) only [g6, g5, g4, g3, g2, g1]
theorem i_Spr (hW : xFix V W) (hs : h.2.1 = N + 25) (o0 : h.1 (N + 24) = some (jO 2 (xF0 2))) :
    ∃ h' : xH, W m_Spr_init (0, [some (.ref (N + 24))], []) h = some (.inl none, h') ∧ h'.2.1 = N + 30 ∧ h'.2.2 = h.2.2 + 64 + 64 + 64 + 3072 + 3072 ∧ h'.1 (N + 24) = some (jO 2 [.ref (N + 25), .ref (N + 26), .ref (N + 27), .ref (N + 28), .ref (N + 29)]) ∧ h'.1 (N + 25) = some (jA 0 64 (fun _ => 0)) ∧ h'.1 (N + 26) = some (jA 0 64 (fun _ => 0)) ∧ h'.1 (N + 27) = some (jL 64 (fun _ => 0)) ∧ h'.1 (N + 28) = some (jL 3072 (fun _ => 0)) ∧ h'.1 (N + 29) = some (jL 3072 (fun _ => 0)) ∧ ∀ o, o < N + 25 → o ≠ N + 24 → h'.1 o = h.1 o := by
  obtain ⟨h1, a1, s1, t1, n1, g1⟩ := b_mk (h := h) (a := N + 25) hs 0 (z := 64) (n := 64) rfl (by decide)
  have o1 := (g1 (N + 24) (nne (by decide))).trans o0
  obtain ⟨h2, a2, s2, o2, l2, g2⟩ := b_pu (h := h1) o1 (L := 5) rfl (b := 0) (kd := 2) (w := .ref (N + 25)) rfl rfl
  have z2 := (congrArg Prod.fst s2).trans s1
  simp only [xF0, xupd] at o2
  obtain ⟨h3, a3, s3, t3, n3, g3⟩ := b_mk (h := h2) (a := N + 26) z2 0 (z := 64) (n := 64) rfl (by decide)
  have o3 := (g3 (N + 24) (nne (by decide))).trans o2
  obtain ⟨h4, a4, s4, o4, l4, g4⟩ := b_pu (h := h3) o3 (L := 5) rfl (b := 1) (kd := 2) (w := .ref (N + 26)) rfl rfl
  have z4 := (congrArg Prod.fst s4).trans s3
  simp only [xF0, xupd] at o4
  obtain ⟨h5, a5, s5, t5, n5, g5⟩ := b_mk (h := h4) (a := N + 27) z4 1 (z := 64) (n := 64) rfl (by decide)
  have o5 := (g5 (N + 24) (nne (by decide))).trans o4
  obtain ⟨h6, a6, s6, o6, l6, g6⟩ := b_pu (h := h5) o5 (L := 5) rfl (b := 2) (kd := 2) (w := .ref (N + 27)) rfl rfl
  have z6 := (congrArg Prod.fst s6).trans s5
  simp only [xF0, xupd] at o6
  obtain ⟨h7, a7, s7, t7, n7, g7⟩ := b_mk (h := h6) (a := N + 28) z6 1 (z := 3072) (n := 3072) rfl (by decide)
  have o7 := (g7 (N + 24) (nne (by decide))).trans o6
  obtain ⟨h8, a8, s8, o8, l8, g8⟩ := b_pu (h := h7) o7 (L := 5) rfl (b := 3) (kd := 2) (w := .ref (N + 28)) rfl rfl
  have z8 := (congrArg Prod.fst s8).trans s7
  simp only [xF0, xupd] at o8
  obtain ⟨h9, a9, s9, t9, n9, g9⟩ := b_mk (h := h8) (a := N + 29) z8 1 (z := 3072) (n := 3072) rfl (by decide)
  have o9 := (g9 (N + 24) (nne (by decide))).trans o8
  obtain ⟨h10, a10, s10, o10, l10, g10⟩ := b_pu (h := h9) o9 (L := 5) rfl (b := 4) (kd := 2) (w := .ref (N + 29)) rfl rfl
  have z10 := (congrArg Prod.fst s10).trans s9
  simp only [xF0, xupd] at o10
  refine ⟨h10, ?_, z10, ?_, o10, ?_, ?_, ?_, ?_, ?_, fun o ho hne => ?_⟩
  · simp only [E_Spr_init hW, S0, a1, a2, a3, a4, a5, a6, a7, a8, a9, a10]
  · rw [s10, t9, s8, t7, s6, t5, s4, t3, s2, t1]
  · simp (disch := exact nne (by decide)) only [g10, g9, g8, g7, g6, g5, g4, g3, g2, n1]; rfl
  · simp (disch := exact nne (by decide)) only [g10, g9, g8, g7, g6, g5, g4, n3]; rfl
  · simp (disch := exact nne (by decide)) only [g10, g9, g8, g7, g6, n5]; rfl
  · simp (disch := exact nne (by decide)) only [g10, g9, g8, n7]; rfl
  · simp (disch := exact nne (by decide)) only [g10, n9]; rfl
  · simp (disch := (first | exact hne | exact nnl ho (by decide))) only [g10, g9, g8, g7, g6, g5, g4, g3, g2, g1]
set_option maxHeartbeats 20000000 in
theorem i_Mod (hW : xFix V W) (hs : h.2.1 = N + 79) (o0 : h.1 (N + 78) = some (jO 7 (xF0 7))) :
    ∃ h' : xH, W m_Mod_init (0, [some (.ref (N + 78))], []) h = some (.inl none, h') ∧ h'.2.1 = N + 101 ∧ h'.2.2 = h.2.2 + 512 + 12288 + 4 + 4 + 12288 + 2048 + 12288 + 64 + 4 + 8 + 8 + 8 + 8 + 8 + 3200 + 3200 + 16 + 16 + 16 + 16 + 16 + 16 ∧ h'.1 (N + 78) = some (jO 7 [jI 0, .ref (N + 79), .ref (N + 80), jI 0, jI 1020, .ref (N + 81), .ref (N + 82), .ref (N + 83), .ref (N + 84), .ref (N + 85), .ref (N + 86), .ref (N + 87), .ref (N + 88), .ref (N + 89), .ref (N + 90), .ref (N + 91), .ref (N + 92), .ref (N + 93), .ref (N + 94), jI 0, jI 0, jI 0, jI 0, jI 0, jI 0, .ref (N + 95), .ref (N + 96), .ref (N + 97), .ref (N + 98), .ref (N + 99), .ref (N + 100)]) ∧ h'.1 (N + 79) = some (jA 0 512 (fun _ => 0)) ∧ h'.1 (N + 80) = some (jA 0 12288 (fun _ => 0)) ∧ h'.1 (N + 81) = some (jA 2 4 (fun _ => 0)) ∧ h'.1 (N + 82) = some (jA 2 4 (fun _ => 0)) ∧ h'.1 (N + 83) = some (jA 0 12288 (fun _ => 0)) ∧ h'.1 (N + 84) = some (jA 0 2048 (fun _ => 0)) ∧ h'.1 (N + 85) = some (jA 0 12288 (fun _ => 0)) ∧ h'.1 (N + 86) = some (jA 2 64 (fun _ => 0)) ∧ h'.1 (N + 87) = some (jA 0 4 (jup (jup (jup (jup (fun _ => 0) 0 0) 1 0) 2 0) 3 0)) ∧ h'.1 (N + 88) = some (jA 0 8 (jup (jup (jup (jup (jup (jup (jup (jup (fun _ => 0) 0 4) 1 4) 2 4) 3 4) 4 4) 5 4) 6 4) 7 4)) ∧ h'.1 (N + 89) = some (jA 0 8 (jup (jup (jup (jup (jup (jup (jup (jup (fun _ => 0) 0 0) 1 0) 2 0) 3 0) 4 0) 5 0) 6 0) 7 0)) ∧ h'.1 (N + 90) = some (jA 0 8 (jup (jup (jup (jup (jup (jup (jup (jup (fun _ => 0) 0 0) 1 0) 2 0) 3 0) 4 0) 5 0) 6 0) 7 0)) ∧ h'.1 (N + 91) = some (jA 2 8 (fun _ => 0)) ∧ h'.1 (N + 92) = some (jA 0 8 (fun _ => 0)) ∧ h'.1 (N + 93) = some (jA 0 3200 (fun _ => 0)) ∧ h'.1 (N + 94) = some (jA 0 3200 (fun _ => 0)) ∧ h'.1 (N + 95) = some (jA 0 16 (fun _ => 0)) ∧ h'.1 (N + 96) = some (jA 0 16 (fun _ => 0)) ∧ h'.1 (N + 97) = some (jA 0 16 (fun _ => 0)) ∧ h'.1 (N + 98) = some (jA 0 16 (fun _ => 0)) ∧ h'.1 (N + 99) = some (jA 0 16 (fun _ => 0)) ∧ h'.1 (N + 100) = some (jA 0 16 (fun _ => 0)) ∧ ∀ o, o < N + 79 → o ≠ N + 78 → h'.1 o = h.1 o := by
  obtain ⟨h1, a1, s1, t1, n1, g1⟩ := b_mk (h := h) (a := N + 79) hs 0 (z := 512) (n := 512) rfl (by decide)
  have o1 := (g1 (N + 78) (nne (by decide))).trans o0
  obtain ⟨h2, a2, s2, o2, l2, g2⟩ := b_pu (h := h1) o1 (L := 31) rfl (b := 1) (kd := 2) (w := .ref (N + 79)) rfl rfl
  have z2 := (congrArg Prod.fst s2).trans s1
  simp only [xF0, xupd] at o2
  obtain ⟨h3, a3, s3, t3, n3, g3⟩ := b_mk (h := h2) (a := N + 80) z2 0 (z := 12288) (n := 12288) rfl (by decide)
  have o3 := (g3 (N + 78) (nne (by decide))).trans o2
  obtain ⟨h4, a4, s4, o4, l4, g4⟩ := b_pu (h := h3) o3 (L := 31) rfl (b := 2) (kd := 2) (w := .ref (N + 80)) rfl rfl
  have z4 := (congrArg Prod.fst s4).trans s3
  simp only [xF0, xupd] at o4
  obtain ⟨h5, a5, s5, o5, l5, g5⟩ := b_pu (h := h4) o4 (L := 31) rfl (b := 4) (kd := 0) (w := .int (Int32.ofInt 1020)) rfl rfl
  have z5 := (congrArg Prod.fst s5).trans z4
  simp only [xF0, xupd] at o5
  obtain ⟨h6, a6, s6, t6, n6, g6⟩ := b_mk (h := h5) (a := N + 81) z5 2 (z := 4) (n := 4) rfl (by decide)
  have o6 := (g6 (N + 78) (nne (by decide))).trans o5
  obtain ⟨h7, a7, s7, o7, l7, g7⟩ := b_pu (h := h6) o6 (L := 31) rfl (b := 5) (kd := 2) (w := .ref (N + 81)) rfl rfl
  have z7 := (congrArg Prod.fst s7).trans s6
  simp only [xF0, xupd] at o7
  obtain ⟨h8, a8, s8, t8, n8, g8⟩ := b_mk (h := h7) (a := N + 82) z7 2 (z := 4) (n := 4) rfl (by decide)
  have o8 := (g8 (N + 78) (nne (by decide))).trans o7
  obtain ⟨h9, a9, s9, o9, l9, g9⟩ := b_pu (h := h8) o8 (L := 31) rfl (b := 6) (kd := 2) (w := .ref (N + 82)) rfl rfl
  have z9 := (congrArg Prod.fst s9).trans s8
  simp only [xF0, xupd] at o9
  obtain ⟨h10, a10, s10, t10, n10, g10⟩ := b_mk (h := h9) (a := N + 83) z9 0 (z := 12288) (n := 12288) rfl (by decide)
  have o10 := (g10 (N + 78) (nne (by decide))).trans o9
  obtain ⟨h11, a11, s11, o11, l11, g11⟩ := b_pu (h := h10) o10 (L := 31) rfl (b := 7) (kd := 2) (w := .ref (N + 83)) rfl rfl
  have z11 := (congrArg Prod.fst s11).trans s10
  simp only [xF0, xupd] at o11
  obtain ⟨h12, a12, s12, t12, n12, g12⟩ := b_mk (h := h11) (a := N + 84) z11 0 (z := 2048) (n := 2048) rfl (by decide)
  have o12 := (g12 (N + 78) (nne (by decide))).trans o11
  obtain ⟨h13, a13, s13, o13, l13, g13⟩ := b_pu (h := h12) o12 (L := 31) rfl (b := 8) (kd := 2) (w := .ref (N + 84)) rfl rfl
  have z13 := (congrArg Prod.fst s13).trans s12
  simp only [xF0, xupd] at o13
  obtain ⟨h14, a14, s14, t14, n14, g14⟩ := b_mk (h := h13) (a := N + 85) z13 0 (z := 12288) (n := 12288) rfl (by decide)
  have o14 := (g14 (N + 78) (nne (by decide))).trans o13
  obtain ⟨h15, a15, s15, o15, l15, g15⟩ := b_pu (h := h14) o14 (L := 31) rfl (b := 9) (kd := 2) (w := .ref (N + 85)) rfl rfl
  have z15 := (congrArg Prod.fst s15).trans s14
  simp only [xF0, xupd] at o15
  obtain ⟨h16, a16, s16, t16, n16, g16⟩ := b_mk (h := h15) (a := N + 86) z15 2 (z := 64) (n := 64) rfl (by decide)
  have o16 := (g16 (N + 78) (nne (by decide))).trans o15
  obtain ⟨h17, a17, s17, o17, l17, g17⟩ := b_pu (h := h16) o16 (L := 31) rfl (b := 10) (kd := 2) (w := .ref (N + 86)) rfl rfl
  have z17 := (congrArg Prod.fst s17).trans s16
  simp only [xF0, xupd] at o17
  obtain ⟨h18, a18, s18, t18, n18, g18⟩ := b_mk (h := h17) (a := N + 87) z17 0 (z := 4) (n := 4) rfl (by decide)
  have o18 := (g18 (N + 78) (nne (by decide))).trans o17
  obtain ⟨h19, a19, s19, n19, g19⟩ := b_st (h := h18) (o := N + 87) (n := 4) (F := fun _ => 0) n18 (z := 0) (v := 0) (by decide)
  have z19 := (congrArg Prod.fst s19).trans s18
  have o19 := (g19 (N + 78) (nne (by decide))).trans o18
  obtain ⟨h20, a20, s20, n20, g20⟩ := b_st (h := h19) (o := N + 87) n19 (z := 1) (v := 0) (by decide)
  have z20 := (congrArg Prod.fst s20).trans z19
  have o20 := (g20 (N + 78) (nne (by decide))).trans o19
  obtain ⟨h21, a21, s21, n21, g21⟩ := b_st (h := h20) (o := N + 87) n20 (z := 2) (v := 0) (by decide)
  have z21 := (congrArg Prod.fst s21).trans z20
  have o21 := (g21 (N + 78) (nne (by decide))).trans o20
  obtain ⟨h22, a22, s22, n22, g22⟩ := b_st (h := h21) (o := N + 87) n21 (z := 3) (v := 0) (by decide)
  have z22 := (congrArg Prod.fst s22).trans z21
  have o22 := (g22 (N + 78) (nne (by decide))).trans o21
  obtain ⟨h23, a23, s23, o23, l23, g23⟩ := b_pu (h := h22) o22 (L := 31) rfl (b := 11) (kd := 2) (w := .ref (N + 87)) rfl rfl
  have z23 := (congrArg Prod.fst s23).trans z22
  simp only [xF0, xupd] at o23
  obtain ⟨h24, a24, s24, t24, n24, g24⟩ := b_mk (h := h23) (a := N + 88) z23 0 (z := 8) (n := 8) rfl (by decide)
  have o24 := (g24 (N + 78) (nne (by decide))).trans o23
  obtain ⟨h25, a25, s25, n25, g25⟩ := b_st (h := h24) (o := N + 88) (n := 8) (F := fun _ => 0) n24 (z := 0) (v := 4) (by decide)
  have z25 := (congrArg Prod.fst s25).trans s24
  have o25 := (g25 (N + 78) (nne (by decide))).trans o24
  obtain ⟨h26, a26, s26, n26, g26⟩ := b_st (h := h25) (o := N + 88) n25 (z := 1) (v := 4) (by decide)
  have z26 := (congrArg Prod.fst s26).trans z25
  have o26 := (g26 (N + 78) (nne (by decide))).trans o25
  obtain ⟨h27, a27, s27, n27, g27⟩ := b_st (h := h26) (o := N + 88) n26 (z := 2) (v := 4) (by decide)
  have z27 := (congrArg Prod.fst s27).trans z26
  have o27 := (g27 (N + 78) (nne (by decide))).trans o26
  obtain ⟨h28, a28, s28, n28, g28⟩ := b_st (h := h27) (o := N + 88) n27 (z := 3) (v := 4) (by decide)
  have z28 := (congrArg Prod.fst s28).trans z27
  have o28 := (g28 (N + 78) (nne (by decide))).trans o27
  obtain ⟨h29, a29, s29, n29, g29⟩ := b_st (h := h28) (o := N + 88) n28 (z := 4) (v := 4) (by decide)
  have z29 := (congrArg Prod.fst s29).trans z28
  have o29 := (g29 (N + 78) (nne (by decide))).trans o28
  obtain ⟨h30, a30, s30, n30, g30⟩ := b_st (h := h29) (o := N + 88) n29 (z := 5) (v := 4) (by decide)
  have z30 := (congrArg Prod.fst s30).trans z29
  have o30 := (g30 (N + 78) (nne (by decide))).trans o29
  obtain ⟨h31, a31, s31, n31, g31⟩ := b_st (h := h30) (o := N + 88) n30 (z := 6) (v := 4) (by decide)
  have z31 := (congrArg Prod.fst s31).trans z30
  have o31 := (g31 (N + 78) (nne (by decide))).trans o30
  obtain ⟨h32, a32, s32, n32, g32⟩ := b_st (h := h31) (o := N + 88) n31 (z := 7) (v := 4) (by decide)
  have z32 := (congrArg Prod.fst s32).trans z31
  have o32 := (g32 (N + 78) (nne (by decide))).trans o31
  obtain ⟨h33, a33, s33, o33, l33, g33⟩ := b_pu (h := h32) o32 (L := 31) rfl (b := 12) (kd := 2) (w := .ref (N + 88)) rfl rfl
  have z33 := (congrArg Prod.fst s33).trans z32
  simp only [xF0, xupd] at o33
  obtain ⟨h34, a34, s34, t34, n34, g34⟩ := b_mk (h := h33) (a := N + 89) z33 0 (z := 8) (n := 8) rfl (by decide)
  have o34 := (g34 (N + 78) (nne (by decide))).trans o33
  obtain ⟨h35, a35, s35, n35, g35⟩ := b_st (h := h34) (o := N + 89) (n := 8) (F := fun _ => 0) n34 (z := 0) (v := 0) (by decide)
  have z35 := (congrArg Prod.fst s35).trans s34
  have o35 := (g35 (N + 78) (nne (by decide))).trans o34
  obtain ⟨h36, a36, s36, n36, g36⟩ := b_st (h := h35) (o := N + 89) n35 (z := 1) (v := 0) (by decide)
  have z36 := (congrArg Prod.fst s36).trans z35
  have o36 := (g36 (N + 78) (nne (by decide))).trans o35
  obtain ⟨h37, a37, s37, n37, g37⟩ := b_st (h := h36) (o := N + 89) n36 (z := 2) (v := 0) (by decide)
  have z37 := (congrArg Prod.fst s37).trans z36
  have o37 := (g37 (N + 78) (nne (by decide))).trans o36
  obtain ⟨h38, a38, s38, n38, g38⟩ := b_st (h := h37) (o := N + 89) n37 (z := 3) (v := 0) (by decide)
  have z38 := (congrArg Prod.fst s38).trans z37
  have o38 := (g38 (N + 78) (nne (by decide))).trans o37
  obtain ⟨h39, a39, s39, n39, g39⟩ := b_st (h := h38) (o := N + 89) n38 (z := 4) (v := 0) (by decide)
  have z39 := (congrArg Prod.fst s39).trans z38
  have o39 := (g39 (N + 78) (nne (by decide))).trans o38
  obtain ⟨h40, a40, s40, n40, g40⟩ := b_st (h := h39) (o := N + 89) n39 (z := 5) (v := 0) (by decide)
  have z40 := (congrArg Prod.fst s40).trans z39
  have o40 := (g40 (N + 78) (nne (by decide))).trans o39
  obtain ⟨h41, a41, s41, n41, g41⟩ := b_st (h := h40) (o := N + 89) n40 (z := 6) (v := 0) (by decide)
  have z41 := (congrArg Prod.fst s41).trans z40
  have o41 := (g41 (N + 78) (nne (by decide))).trans o40
  obtain ⟨h42, a42, s42, n42, g42⟩ := b_st (h := h41) (o := N + 89) n41 (z := 7) (v := 0) (by decide)
  have z42 := (congrArg Prod.fst s42).trans z41
  have o42 := (g42 (N + 78) (nne (by decide))).trans o41
  obtain ⟨h43, a43, s43, o43, l43, g43⟩ := b_pu (h := h42) o42 (L := 31) rfl (b := 13) (kd := 2) (w := .ref (N + 89)) rfl rfl
  have z43 := (congrArg Prod.fst s43).trans z42
  simp only [xF0, xupd] at o43
  obtain ⟨h44, a44, s44, t44, n44, g44⟩ := b_mk (h := h43) (a := N + 90) z43 0 (z := 8) (n := 8) rfl (by decide)
  have o44 := (g44 (N + 78) (nne (by decide))).trans o43
  obtain ⟨h45, a45, s45, n45, g45⟩ := b_st (h := h44) (o := N + 90) (n := 8) (F := fun _ => 0) n44 (z := 0) (v := 0) (by decide)
  have z45 := (congrArg Prod.fst s45).trans s44
  have o45 := (g45 (N + 78) (nne (by decide))).trans o44
  obtain ⟨h46, a46, s46, n46, g46⟩ := b_st (h := h45) (o := N + 90) n45 (z := 1) (v := 0) (by decide)
  have z46 := (congrArg Prod.fst s46).trans z45
  have o46 := (g46 (N + 78) (nne (by decide))).trans o45
  obtain ⟨h47, a47, s47, n47, g47⟩ := b_st (h := h46) (o := N + 90) n46 (z := 2) (v := 0) (by decide)
  have z47 := (congrArg Prod.fst s47).trans z46
  have o47 := (g47 (N + 78) (nne (by decide))).trans o46
  obtain ⟨h48, a48, s48, n48, g48⟩ := b_st (h := h47) (o := N + 90) n47 (z := 3) (v := 0) (by decide)
  have z48 := (congrArg Prod.fst s48).trans z47
  have o48 := (g48 (N + 78) (nne (by decide))).trans o47
  obtain ⟨h49, a49, s49, n49, g49⟩ := b_st (h := h48) (o := N + 90) n48 (z := 4) (v := 0) (by decide)
  have z49 := (congrArg Prod.fst s49).trans z48
  have o49 := (g49 (N + 78) (nne (by decide))).trans o48
  obtain ⟨h50, a50, s50, n50, g50⟩ := b_st (h := h49) (o := N + 90) n49 (z := 5) (v := 0) (by decide)
  have z50 := (congrArg Prod.fst s50).trans z49
  have o50 := (g50 (N + 78) (nne (by decide))).trans o49
  obtain ⟨h51, a51, s51, n51, g51⟩ := b_st (h := h50) (o := N + 90) n50 (z := 6) (v := 0) (by decide)
  have z51 := (congrArg Prod.fst s51).trans z50
  have o51 := (g51 (N + 78) (nne (by decide))).trans o50
  obtain ⟨h52, a52, s52, n52, g52⟩ := b_st (h := h51) (o := N + 90) n51 (z := 7) (v := 0) (by decide)
  have z52 := (congrArg Prod.fst s52).trans z51
  have o52 := (g52 (N + 78) (nne (by decide))).trans o51
  obtain ⟨h53, a53, s53, o53, l53, g53⟩ := b_pu (h := h52) o52 (L := 31) rfl (b := 14) (kd := 2) (w := .ref (N + 90)) rfl rfl
  have z53 := (congrArg Prod.fst s53).trans z52
  simp only [xF0, xupd] at o53
  obtain ⟨h54, a54, s54, t54, n54, g54⟩ := b_mk (h := h53) (a := N + 91) z53 2 (z := 8) (n := 8) rfl (by decide)
  have o54 := (g54 (N + 78) (nne (by decide))).trans o53
  obtain ⟨h55, a55, s55, o55, l55, g55⟩ := b_pu (h := h54) o54 (L := 31) rfl (b := 15) (kd := 2) (w := .ref (N + 91)) rfl rfl
  have z55 := (congrArg Prod.fst s55).trans s54
  simp only [xF0, xupd] at o55
  obtain ⟨h56, a56, s56, t56, n56, g56⟩ := b_mk (h := h55) (a := N + 92) z55 0 (z := 8) (n := 8) rfl (by decide)
  have o56 := (g56 (N + 78) (nne (by decide))).trans o55
  obtain ⟨h57, a57, s57, o57, l57, g57⟩ := b_pu (h := h56) o56 (L := 31) rfl (b := 16) (kd := 2) (w := .ref (N + 92)) rfl rfl
  have z57 := (congrArg Prod.fst s57).trans s56
  simp only [xF0, xupd] at o57
  obtain ⟨h58, a58, s58, t58, n58, g58⟩ := b_mk (h := h57) (a := N + 93) z57 0 (z := 3200) (n := 3200) rfl (by decide)
  have o58 := (g58 (N + 78) (nne (by decide))).trans o57
  obtain ⟨h59, a59, s59, o59, l59, g59⟩ := b_pu (h := h58) o58 (L := 31) rfl (b := 17) (kd := 2) (w := .ref (N + 93)) rfl rfl
  have z59 := (congrArg Prod.fst s59).trans s58
  simp only [xF0, xupd] at o59
  obtain ⟨h60, a60, s60, t60, n60, g60⟩ := b_mk (h := h59) (a := N + 94) z59 0 (z := 3200) (n := 3200) rfl (by decide)
  have o60 := (g60 (N + 78) (nne (by decide))).trans o59
  obtain ⟨h61, a61, s61, o61, l61, g61⟩ := b_pu (h := h60) o60 (L := 31) rfl (b := 18) (kd := 2) (w := .ref (N + 94)) rfl rfl
  have z61 := (congrArg Prod.fst s61).trans s60
  simp only [xF0, xupd] at o61
  obtain ⟨h62, a62, s62, t62, n62, g62⟩ := b_mk (h := h61) (a := N + 95) z61 0 (z := 16) (n := 16) rfl (by decide)
  have o62 := (g62 (N + 78) (nne (by decide))).trans o61
  obtain ⟨h63, a63, s63, o63, l63, g63⟩ := b_pu (h := h62) o62 (L := 31) rfl (b := 25) (kd := 2) (w := .ref (N + 95)) rfl rfl
  have z63 := (congrArg Prod.fst s63).trans s62
  simp only [xF0, xupd] at o63
  obtain ⟨h64, a64, s64, t64, n64, g64⟩ := b_mk (h := h63) (a := N + 96) z63 0 (z := 16) (n := 16) rfl (by decide)
  have o64 := (g64 (N + 78) (nne (by decide))).trans o63
  obtain ⟨h65, a65, s65, o65, l65, g65⟩ := b_pu (h := h64) o64 (L := 31) rfl (b := 26) (kd := 2) (w := .ref (N + 96)) rfl rfl
  have z65 := (congrArg Prod.fst s65).trans s64
  simp only [xF0, xupd] at o65
  obtain ⟨h66, a66, s66, t66, n66, g66⟩ := b_mk (h := h65) (a := N + 97) z65 0 (z := 16) (n := 16) rfl (by decide)
  have o66 := (g66 (N + 78) (nne (by decide))).trans o65
  obtain ⟨h67, a67, s67, o67, l67, g67⟩ := b_pu (h := h66) o66 (L := 31) rfl (b := 27) (kd := 2) (w := .ref (N + 97)) rfl rfl
  have z67 := (congrArg Prod.fst s67).trans s66
  simp only [xF0, xupd] at o67
  obtain ⟨h68, a68, s68, t68, n68, g68⟩ := b_mk (h := h67) (a := N + 98) z67 0 (z := 16) (n := 16) rfl (by decide)
  have o68 := (g68 (N + 78) (nne (by decide))).trans o67
  obtain ⟨h69, a69, s69, o69, l69, g69⟩ := b_pu (h := h68) o68 (L := 31) rfl (b := 28) (kd := 2) (w := .ref (N + 98)) rfl rfl
  have z69 := (congrArg Prod.fst s69).trans s68
  simp only [xF0, xupd] at o69
  obtain ⟨h70, a70, s70, t70, n70, g70⟩ := b_mk (h := h69) (a := N + 99) z69 0 (z := 16) (n := 16) rfl (by decide)
  have o70 := (g70 (N + 78) (nne (by decide))).trans o69
  obtain ⟨h71, a71, s71, o71, l71, g71⟩ := b_pu (h := h70) o70 (L := 31) rfl (b := 29) (kd := 2) (w := .ref (N + 99)) rfl rfl
  have z71 := (congrArg Prod.fst s71).trans s70
  simp only [xF0, xupd] at o71
  obtain ⟨h72, a72, s72, t72, n72, g72⟩ := b_mk (h := h71) (a := N + 100) z71 0 (z := 16) (n := 16) rfl (by decide)
  have o72 := (g72 (N + 78) (nne (by decide))).trans o71
  obtain ⟨h73, a73, s73, o73, l73, g73⟩ := b_pu (h := h72) o72 (L := 31) rfl (b := 30) (kd := 2) (w := .ref (N + 100)) rfl rfl
  have z73 := (congrArg Prod.fst s73).trans s72
  simp only [xF0, xupd] at o73
  refine ⟨h73, ?_, z73, ?_, o73, ?_, ?_, ?_, ?_, ?_, ?_, ?_, ?_, ?_, ?_, ?_, ?_, ?_, ?_, ?_, ?_, ?_, ?_, ?_, ?_, ?_, ?_, fun o ho hne => ?_⟩
  · simp only [E_Mod_init hW, E_Mod_init_p1 hW, S0, a1, a2, a3, a4, a5, a6, a7, a8, a9, a10, a11, a12, a13, a14, a15, a16, a17, a18, a19, a20, a21, a22, a23, a24, a25, a26, a27, a28, a29, a30, a31, a32, a33, a34, a35, a36, a37, a38, a39, a40, a41, a42, a43, a44, a45, a46, a47, a48, a49, a50, a51, a52, a53, a54, a55, a56, a57, a58, a59, a60, a61, a62, a63, a64, a65, a66, a67, a68, a69, a70, a71, a72, a73]
  · rw [s73, t72, s71, t70, s69, t68, s67, t66, s65, t64, s63, t62, s61, t60, s59, t58, s57, t56, s55, t54, s53, s52, s51, s50, s49, s48, s47, s46, s45, t44, s43, s42, s41, s40, s39, s38, s37, s36, s35, t34, s33, s32, s31, s30, s29, s28, s27, s26, s25, t24, s23, s22, s21, s20, s19, t18, s17, t16, s15, t14, s13, t12, s11, t10, s9, t8, s7, t6, s5, s4, t3, s2, t1]
  · simp (disch := exact nne (by decide)) only [g73, g72, g71, g70, g69, g68, g67, g66, g65, g64, g63, g62, g61, g60, g59, g58, g57, g56, g55, g54, g53, g52, g51, g50, g49, g48, g47, g46, g45, g44, g43, g42, g41, g40, g39, g38, g37, g36, g35, g34, g33, g32, g31, g30, g29, g28, g27, g26, g25, g24, g23, g22, g21, g20, g19, g18, g17, g16, g15, g14, g13, g12, g11, g10, g9, g8, g7, g6, g5, g4, g3, g2, n1]; rfl
  · simp (disch := exact nne (by decide)) only [g73, g72, g71, g70, g69, g68, g67, g66, g65, g64, g63, g62, g61, g60, g59, g58, g57, g56, g55, g54, g53, g52, g51, g50, g49, g48, g47, g46, g45, g44, g43, g42, g41, g40, g39, g38, g37, g36, g35, g34, g33, g32, g31, g30, g29, g28, g27, g26, g25, g24, g23, g22, g21, g20, g19, g18, g17, g16, g15, g14, g13, g12, g11, g10, g9, g8, g7, g6, g5, g4, n3]; rfl
  · simp (disch := exact nne (by decide)) only [g73, g72, g71, g70, g69, g68, g67, g66, g65, g64, g63, g62, g61, g60, g59, g58, g57, g56, g55, g54, g53, g52, g51, g50, g49, g48, g47, g46, g45, g44, g43, g42, g41, g40, g39, g38, g37, g36, g35, g34, g33, g32, g31, g30, g29, g28, g27, g26, g25, g24, g23, g22, g21, g20, g19, g18, g17, g16, g15, g14, g13, g12, g11, g10, g9, g8, g7, n6]; rfl
  · simp (disch := exact nne (by decide)) only [g73, g72, g71, g70, g69, g68, g67, g66, g65, g64, g63, g62, g61, g60, g59, g58, g57, g56, g55, g54, g53, g52, g51, g50, g49, g48, g47, g46, g45, g44, g43, g42, g41, g40, g39, g38, g37, g36, g35, g34, g33, g32, g31, g30, g29, g28, g27, g26, g25, g24, g23, g22, g21, g20, g19, g18, g17, g16, g15, g14, g13, g12, g11, g10, g9, n8]; rfl
  · simp (disch := exact nne (by decide)) only [g73, g72, g71, g70, g69, g68, g67, g66, g65, g64, g63, g62, g61, g60, g59, g58, g57, g56, g55, g54, g53, g52, g51, g50, g49, g48, g47, g46, g45, g44, g43, g42, g41, g40, g39, g38, g37, g36, g35, g34, g33, g32, g31, g30, g29, g28, g27, g26, g25, g24, g23, g22, g21, g20, g19, g18, g17, g16, g15, g14, g13, g12, g11, n10]; rfl
  · simp (disch := exact nne (by decide)) only [g73, g72, g71, g70, g69, g68, g67, g66, g65, g64, g63, g62, g61, g60, g59, g58, g57, g56, g55, g54, g53, g52, g51, g50, g49, g48, g47, g46, g45, g44, g43, g42, g41, g40, g39, g38, g37, g36, g35, g34, g33, g32, g31, g30, g29, g28, g27, g26, g25, g24, g23, g22, g21, g20, g19, g18, g17, g16, g15, g14, g13, n12]; rfl
  · simp (disch := exact nne (by decide)) only [g73, g72, g71, g70, g69, g68, g67, g66, g65, g64, g63, g62, g61, g60, g59, g58, g57, g56, g55, g54, g53, g52, g51, g50, g49, g48, g47, g46, g45, g44, g43, g42, g41, g40, g39, g38, g37, g36, g35, g34, g33, g32, g31, g30, g29, g28, g27, g26, g25, g24, g23, g22, g21, g20, g19, g18, g17, g16, g15, n14]; rfl
  · simp (disch := exact nne (by decide)) only [g73, g72, g71, g70, g69, g68, g67, g66, g65, g64, g63, g62, g61, g60, g59, g58, g57, g56, g55, g54, g53, g52, g51, g50, g49, g48, g47, g46, g45, g44, g43, g42, g41, g40, g39, g38, g37, g36, g35, g34, g33, g32, g31, g30, g29, g28, g27, g26, g25, g24, g23, g22, g21, g20, g19, g18, g17, n16]; rfl
  · simp (disch := exact nne (by decide)) only [g73, g72, g71, g70, g69, g68, g67, g66, g65, g64, g63, g62, g61, g60, g59, g58, g57, g56, g55, g54, g53, g52, g51, g50, g49, g48, g47, g46, g45, g44, g43, g42, g41, g40, g39, g38, g37, g36, g35, g34, g33, g32, g31, g30, g29, g28, g27, g26, g25, g24, g23, n22]; rfl
  · simp (disch := exact nne (by decide)) only [g73, g72, g71, g70, g69, g68, g67, g66, g65, g64, g63, g62, g61, g60, g59, g58, g57, g56, g55, g54, g53, g52, g51, g50, g49, g48, g47, g46, g45, g44, g43, g42, g41, g40, g39, g38, g37, g36, g35, g34, g33, n32]; rfl
  · simp (disch := exact nne (by decide)) only [g73, g72, g71, g70, g69, g68, g67, g66, g65, g64, g63, g62, g61, g60, g59, g58, g57, g56, g55, g54, g53, g52, g51, g50, g49, g48, g47, g46, g45, g44, g43, n42]; rfl
  · simp (disch := exact nne (by decide)) only [g73, g72, g71, g70, g69, g68, g67, g66, g65, g64, g63, g62, g61, g60, g59, g58, g57, g56, g55, g54, g53, n52]; rfl
  · simp (disch := exact nne (by decide)) only [g73, g72, g71, g70, g69, g68, g67, g66, g65, g64, g63, g62, g61, g60, g59, g58, g57, g56, g55, n54]; rfl
  · simp (disch := exact nne (by decide)) only [g73, g72, g71, g70, g69, g68, g67, g66, g65, g64, g63, g62, g61, g60, g59, g58, g57, n56]; rfl
  · simp (disch := exact nne (by decide)) only [g73, g72, g71, g70, g69, g68, g67, g66, g65, g64, g63, g62, g61, g60, g59, n58]; rfl
  · simp (disch := exact nne (by decide)) only [g73, g72, g71, g70, g69, g68, g67, g66, g65, g64, g63, g62, g61, n60]; rfl
  · simp (disch := exact nne (by decide)) only [g73, g72, g71, g70, g69, g68, g67, g66, g65, g64, g63, n62]; rfl
  · simp (disch := exact nne (by decide)) only [g73, g72, g71, g70, g69, g68, g67, g66, g65, n64]; rfl
  · simp (disch := exact nne (by decide)) only [g73, g72, g71, g70, g69, g68, g67, n66]; rfl
  · simp (disch := exact nne (by decide)) only [g73, g72, g71, g70, g69, n68]; rfl
  · simp (disch := exact nne (by decide)) only [g73, g72, g71, n70]; rfl
  · simp (disch := exact nne (by decide)) only [g73, n72]; rfl
  · simp (disch := (first | exact hne | exact nnl ho (by decide))) only [g73, g72, g71, g70, g69, g68, g67, g66, g65, g64, g63, g62, g61, g60, g59, g58, g57, g56, g55, g54, g53, g52, g51, g50, g49, g48, g47, g46, g45, g44, g43, g42, g41, g40, g39, g38, g37, g36, g35, g34, g33, g32, g31, g30, g29, g28, g27, g26, g25, g24, g23, g22, g21, g20, g19, g18, g17, g16, g15, g14, g13, g12, g11, g10, g9, g8, g7, g6, g5, g4, g3, g2, g1]
end IIS
