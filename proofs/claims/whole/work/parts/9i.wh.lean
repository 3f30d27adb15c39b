/-! what holds at the law's entry, for the small machine -/
theorem k_at {s : State} {args : Array Value} (hw : ∀ w ∈ xWL, w.before args s = true) (hts : ∀ w ∈ lw_tbl, w.before args s = true) : ∃ D : va_G, va_K D xcl [] s := by
  have one : ∀ c : Nat, ∃ g : ClassId × (Nat → Nat), ∀ q : vw_C, xcl[c]? = some q → u_Kn s q.1 q.2.1 q.2.2 g.1 g.2 := by
    intro c
    by_cases hc : c < 11
    · have hc' : c = 0 ∨ c = 1 ∨ c = 2 ∨ c = 3 ∨ c = 4 ∨ c = 5 ∨ c = 6 ∨ c = 7 ∨ c = 8 ∨ c = 9 ∨ c = 10 := by omega
      rcases hc' with rfl | rfl | rfl | rfl | rfl | rfl | rfl | rfl | rfl | rfl | rfl
      · obtain ⟨cC, iS, h⟩ := u_known (n := 8) hw xu_0.1 (hts (.instantiable xC0 8) (by decide +kernel))
        exact ⟨(cC, iS), fun q e => by cases (show some (xC0, xT0, 8) = some q from e); exact h⟩
      · obtain ⟨cC, iS, h⟩ := u_known (n := 5) hw xu_1.1 (hts (.instantiable xC1 5) (by decide +kernel))
        exact ⟨(cC, iS), fun q e => by cases (show some (xC1, xT1, 5) = some q from e); exact h⟩
      · obtain ⟨cC, iS, h⟩ := u_known (n := 5) hw xu_2.1 (hts (.instantiable xC2 5) (by decide +kernel))
        exact ⟨(cC, iS), fun q e => by cases (show some (xC2, xT2, 5) = some q from e); exact h⟩
      · obtain ⟨cC, iS, h⟩ := u_known (n := 4) hw xu_3.1 (hts (.instantiable xC3 4) (by decide +kernel))
        exact ⟨(cC, iS), fun q e => by cases (show some (xC3, xT3, 4) = some q from e); exact h⟩
      · obtain ⟨cC, iS, h⟩ := u_known (n := 6) hw xu_4.1 (hts (.instantiable xC4 6) (by decide +kernel))
        exact ⟨(cC, iS), fun q e => by cases (show some (xC4, xT4, 6) = some q from e); exact h⟩
      · obtain ⟨cC, iS, h⟩ := u_known (n := 5) hw xu_5.1 (hts (.instantiable xC5 5) (by decide +kernel))
        exact ⟨(cC, iS), fun q e => by cases (show some (xC5, xT5, 5) = some q from e); exact h⟩
      · obtain ⟨cC, iS, h⟩ := u_known (n := 5) hw xu_6.1 (hts (.instantiable xC6 5) (by decide +kernel))
        exact ⟨(cC, iS), fun q e => by cases (show some (xC6, xT6, 5) = some q from e); exact h⟩
      · obtain ⟨cC, iS, h⟩ := u_known (n := 31) hw xu_7.1 (hts (.instantiable xC7 31) (by decide +kernel))
        exact ⟨(cC, iS), fun q e => by cases (show some (xC7, xT7, 31) = some q from e); exact h⟩
      · obtain ⟨cC, iS, h⟩ := u_known (n := 6) hw xu_8.1 (hts (.instantiable xC8 6) (by decide +kernel))
        exact ⟨(cC, iS), fun q e => by cases (show some (xC8, xT8, 0) = some q from e); exact h⟩
      · obtain ⟨cC, iS, h⟩ := u_known (n := 6) hw xu_9.1 (hts (.instantiable xC9 6) (by decide +kernel))
        exact ⟨(cC, iS), fun q e => by cases (show some (xC9, xT9, 0) = some q from e); exact h⟩
      · obtain ⟨cC, iS, h⟩ := u_known (n := 6) hw xu_10.1 (hts (.instantiable xC10 6) (by decide +kernel))
        exact ⟨(cC, iS), fun q e => by cases (show some (xC10, xT10, 0) = some q from e); exact h⟩
    · exact ⟨(0, fun _ => 0), fun q e => absurd (List.getElem?_eq_some_iff.mp e).1 (fun h => hc h)⟩
  obtain ⟨g, hg⟩ := Classical.axiomOfChoice one
  exact ⟨(fun c => (g c).1, fun c => (g c).2), fun c q e => hg c q e, fun k q e => by cases e⟩
theorem sw_at {s : State} {b : Nat} {cR : ClassId} (hR : s.vm.findClass "PrePressRoom" = some cR) (hts : ∀ w ∈ lw_tbl, w.before #[Value.ref b] s = true) : xSw xSL s := by
  have one : ∀ (k : Nat) (tx : String), (Cond.stringRef "PrePressRoom" k tx).before #[Value.ref b] s = true → ∃ a : Nat, ∀ U : State, s.WarmedH U.vm → vk_R "PrePressRoom" k tx a U := by
    intro k tx h
    obtain ⟨k1, cf, i, a, -, -, -, -, -, e⟩ := Cond.stringRef_spec hR h
    exact ⟨a, fun U hU => vk_R.warm hU (vk_R.of h e)⟩
  intro q hq
  have : q = ("PrePressRoom", 174, "no such number") ∨ q = ("PrePressRoom", 177, "out of its range") ∨ q = ("PrePressRoom", 72, "another spot ink is above 0") ∨ q = ("PrePressRoom", 181, "the page has no job") ∨ q = ("PrePressRoom", 105, "no job without traps") ∨ q = ("PrePressRoom", 143, "not whole sheets") ∨ q = ("PrePressRoom", 179, "nothing is laid") := by
    simpa [xSL] using hq
  rcases this with rfl | rfl | rfl | rfl | rfl | rfl | rfl
  · exact one _ _ (hts _ (by decide +kernel))
  · exact one _ _ (hts _ (by decide +kernel))
  · exact one _ _ (hts _ (by decide +kernel))
  · exact one _ _ (hts _ (by decide +kernel))
  · exact one _ _ (hts _ (by decide +kernel))
  · exact one _ _ (hts _ (by decide +kernel))
  · exact one _ _ (hts _ (by decide +kernel))
theorem ex_at {s : State} {b : Nat} {D : va_G} (K : va_K D xcl [] s) (hts : ∀ w ∈ lw_tbl, w.before #[Value.ref b] s = true) (hgv : (Jvm.Cond.and given_1 narrow_1).before #[Value.ref b] s = true) : xEx D xcl xEX s := by
  have c8 : s.vm.findClass "java/lang/IndexOutOfBoundsException" = some (D.1 8) := (K.1 8 (xC8, xT8, 0) rfl).2.1
  have c9 : s.vm.findClass "java/lang/IllegalArgumentException" = some (D.1 9) := (K.1 9 (xC9, xT9, 0) rfl).2.1
  have c10 : s.vm.findClass "java/lang/IllegalStateException" = some (D.1 10) := (K.1 10 (xC10, xT10, 0) rfl).2.1
  have s8 := hts (.superclass "java/lang/IndexOutOfBoundsException" "java/lang/RuntimeException") (by decide +kernel)
  have s9 := hts (.superclass "java/lang/IllegalArgumentException" "java/lang/RuntimeException") (by decide +kernel)
  have s10 := hts (.superclass "java/lang/IllegalStateException" "java/lang/RuntimeException") (by decide +kernel)
  have l8 := hts (.lays "java/lang/IndexOutOfBoundsException" "java/lang/Throwable" "cause" "Ljava/lang/Throwable;") (by decide +kernel)
  have l9 := hts (.lays "java/lang/IllegalArgumentException" "java/lang/Throwable" "cause" "Ljava/lang/Throwable;") (by decide +kernel)
  have l10 := hts (.lays "java/lang/IllegalStateException" "java/lang/Throwable" "cause" "Ljava/lang/Throwable;") (by decide +kernel)
  have sT := hts (.superclass "java/lang/Throwable" "java/lang/Object") (by decide +kernel)
  have sP := hts (.superclass "PrePressRoom" "java/lang/Object") (by decide +kernel)
  have hs := flat_of_before _ hgv
  have p8 := hs (.not (.castable "PrePressRoom" "java/lang/IndexOutOfBoundsException")) (by decide +kernel)
  have p9 := hs (.not (.castable "PrePressRoom" "java/lang/IllegalArgumentException")) (by decide +kernel)
  have p10 := hs (.not (.castable "PrePressRoom" "java/lang/IllegalStateException")) (by decide +kernel)
  have a89 := not_asg c8 c9 (by decide) (by decide) (by decide) (by decide) s8 s9 l8 sT sP p9
  have a8x := not_asg c8 c10 (by decide) (by decide) (by decide) (by decide) s8 s10 l8 sT sP p10
  have a98 := not_asg c9 c8 (by decide) (by decide) (by decide) (by decide) s9 s8 l9 sT sP p8
  have a9x := not_asg c9 c10 (by decide) (by decide) (by decide) (by decide) s9 s10 l9 sT sP p10
  have ax8 := not_asg c10 c8 (by decide) (by decide) (by decide) (by decide) s10 s8 l10 sT sP p8
  have ax9 := not_asg c10 c9 (by decide) (by decide) (by decide) (by decide) s10 s9 l10 sT sP p9
  intro k hk
  have hk' : k = 8 ∨ k = 9 ∨ k = 10 := by simpa [xEX] using hk
  rcases hk' with rfl | rfl | rfl
  · refine ⟨⟨_, rfl⟩, fun k' hk => ?_⟩
    have hk' : k' = 8 ∨ k' = 9 ∨ k' = 10 := by simpa [xEX] using hk
    rcases hk' with rfl | rfl | rfl
    · exact ⟨fun _ => rfl, fun _ => va_asg _ _⟩
    · rw [a89]; decide
    · rw [a8x]; decide
  · refine ⟨⟨_, rfl⟩, fun k' hk => ?_⟩
    have hk' : k' = 8 ∨ k' = 9 ∨ k' = 10 := by simpa [xEX] using hk
    rcases hk' with rfl | rfl | rfl
    · rw [a98]; decide
    · exact ⟨fun _ => rfl, fun _ => va_asg _ _⟩
    · rw [a9x]; decide
  · refine ⟨⟨_, rfl⟩, fun k' hk => ?_⟩
    have hk' : k' = 8 ∨ k' = 9 ∨ k' = 10 := by simpa [xEX] using hk
    rcases hk' with rfl | rfl | rfl
    · rw [ax8]; decide
    · rw [ax9]; decide
    · exact ⟨fun _ => rfl, fun _ => va_asg _ _⟩
/-- the weights' array -/
theorem wt_at {s : State} {b : Nat} (hgv : (Jvm.Cond.and given_1 narrow_1).before #[Value.ref b] s = true) : ∃ (a : Nat) (cell : Cell), (Term.static "PrePressRoom$Job" "WEIGHTS" "[I").eval #[Value.ref b] s none [] s = some (.ref a) ∧ s.heap[a]? = some cell ∧ s.isArrayOf cell .int ∧ cell.vm ≠ .unknown ∧ (8 ≤ cell.slots.size ∧ cell.slots.size.toInt32 = Int32.ofNat 8) ∧ ∀ j : Nat, j < 8 → cell.slots[j]? = some (.int (Int32.ofInt (B0 j))) := by
  have hs := flat_of_before _ hgv
  have ha := hs (Cond.arrayOf (.static "PrePressRoom$Job" "WEIGHTS" "[I") .int) (by decide +kernel)
  have hl := eq_int (hs (Cond.eq (.length (.static "PrePressRoom$Job" "WEIGHTS" "[I")) (.int 8)) (by decide +kernel))
  obtain ⟨a, cell, e1, e2, e3⟩ := Term.length_spec hl
  obtain ⟨hc, hkn, -, -⟩ := State.arrayAt?_spec e2
  have ho := Cond.arrayOf_spec ha e1 hc
  have el : ∀ (j : Nat) (z w : Int32), (Cond.eq (.elem (.static "PrePressRoom$Job" "WEIGHTS" "[I") (.int z)) (.int w)).before #[Value.ref b] s = true → z.toNatClampNeg = j → cell.slots[j]? = some (.int w) := by
    intro j z w h hz
    obtain ⟨a', j', cell', f1, f2, f3, f4, f5⟩ := Term.elem_spec (eq_int h)
    have ea : a' = a := by rw [e1] at f1; cases f1; rfl
    subst ea
    have ec : cell' = cell := by rw [e2] at f3; cases f3; rfl
    subst ec
    have ej : j' = z := by cases f2; rfl
    subst ej
    rw [hz] at f5
    exact f5
  have w0 := el 0 0 30 (hs _ (by decide +kernel)) (by decide)
  have w1 := el 1 1 59 (hs _ (by decide +kernel)) (by decide)
  have w2 := el 2 2 11 (hs _ (by decide +kernel)) (by decide)
  have w3 := el 3 3 100 (hs _ (by decide +kernel)) (by decide)
  have w4 := el 4 4 50 (hs _ (by decide +kernel)) (by decide)
  have w5 := el 5 5 50 (hs _ (by decide +kernel)) (by decide)
  have w6 := el 6 6 50 (hs _ (by decide +kernel)) (by decide)
  have w7 := el 7 7 50 (hs _ (by decide +kernel)) (by decide)
  refine ⟨a, cell, e1, hc, ho.1, hkn, ⟨?_, ?_⟩, fun j hj => ?_⟩
  · have := (Array.getElem?_eq_some_iff.mp w7).1
    omega
  · have : cell.slots.size.toInt32 = 8 := (Value.int.inj e3).symm
    rw [this]; rfl
  · match j, hj with
    | 0, _ => exact w0
    | 1, _ => exact w1
    | 2, _ => exact w2
    | 3, _ => exact w3
    | 4, _ => exact w4
    | 5, _ => exact w5
    | 6, _ => exact w6
    | 7, _ => exact w7
theorem sf_at {s : State} {b : Nat} {D : va_G} {V : Nat → Value} {a : Nat} (hw : xWd xWL s) (K : va_K D xcl [] s) (hts : ∀ w ∈ lw_tbl, w.before #[Value.ref b] s = true) (hgv : (Jvm.Cond.and given_1 narrow_1).before #[Value.ref b] s = true) (hV : V 0 = .ref a) (he : (Term.static "PrePressRoom$Job" "WEIGHTS" "[I").eval #[Value.ref b] s none [] s = some (.ref a)) : xSF D xcl s.heap xWL xHL xSL xEX V xsf s := by
  have hs := flat_of_before _ hgv
  have iT := hts (.initialized "java/lang/Throwable") (by decide +kernel)
  have l1 := hts (.laysStatic "java/lang/Throwable" "UNASSIGNED_STACK" "[Ljava/lang/StackTraceElement;") (by decide +kernel)
  have l2 := hts (.laysStatic "java/lang/Throwable" "SUPPRESSED_SENTINEL" "Ljava/util/List;") (by decide +kernel)
  have r1 := hs (Cond.isRef (.static "java/lang/Throwable" "UNASSIGNED_STACK" "[Ljava/lang/StackTraceElement;")) (by decide +kernel)
  have r2 := hs (Cond.isRef (.static "java/lang/Throwable" "SUPPRESSED_SENTINEL" "Ljava/util/List;")) (by decide +kernel)
  refine ⟨hw, fun w hw a' U hU hq => ?_, sw_at (K.1 0 (xC0, xT0, 8) rfl).2.1 hts, ex_at K hts hgv, K, ?_⟩
  · have : w = .isRef (.static "java/lang/Throwable" "UNASSIGNED_STACK" "[Ljava/lang/StackTraceElement;") ∨ w = .isRef (.static "java/lang/Throwable" "SUPPRESSED_SENTINEL" "Ljava/util/List;") ∨ w = .laysStatic "java/lang/Throwable" "UNASSIGNED_STACK" "[Ljava/lang/StackTraceElement;" ∨ w = .laysStatic "java/lang/Throwable" "SUPPRESSED_SENTINEL" "Ljava/util/List;" := by
      simpa [xHL] using hw
    rcases this with rfl | rfl | rfl | rfl
    · exact ir_heap hU hq l1 iT r1
    · exact ir_heap hU hq l2 iT r2
    · exact ls_heap hU hq l1
    · exact ls_heap hU hq l2
  · show va_Z "PrePressRoom$Job" "WEIGHTS" "[I" (V 0) (fun q => s.heap.size ≤ q) s s.heap
    rw [hV]
    exact va_Zof (hts (.laysStatic "PrePressRoom$Job" "WEIGHTS" "[I") (by decide +kernel)) (hts (.initialized "PrePressRoom$Job") (by decide +kernel)) he (fun q h1 h2 => by omega)
