/-! the tables of the objects, and soundness at every number of steps -/
set_option maxRecDepth 100000 in
theorem xu_0 : (∀ w ∈ u_ws xC0 xT0 8, w ∈ xWL) ∧ (∀ k, k < 8 → parseFieldDescriptor (xT0 k).2.2.1 = some (xty0 0 k)) ∧ (∀ a, a < 8 → ∀ b, b < 8 → a ≠ b → (xT0 a).2.1 ≠ (xT0 b).2.1) ∧ (∀ j, j < 8 → defaultValue (xty0 0 j) = vp_V (xF0 0) j) := ⟨by decide +kernel, by decide +kernel, by decide +kernel, by decide +kernel⟩
set_option maxRecDepth 100000 in
theorem xu_1 : (∀ w ∈ u_ws xC1 xT1 5, w ∈ xWL) ∧ (∀ k, k < 5 → parseFieldDescriptor (xT1 k).2.2.1 = some (xty0 1 k)) ∧ (∀ a, a < 5 → ∀ b, b < 5 → a ≠ b → (xT1 a).2.1 ≠ (xT1 b).2.1) ∧ (∀ j, j < 5 → defaultValue (xty0 1 j) = vp_V (xF0 1) j) := ⟨by decide +kernel, by decide +kernel, by decide +kernel, by decide +kernel⟩
set_option maxRecDepth 100000 in
theorem xu_2 : (∀ w ∈ u_ws xC2 xT2 5, w ∈ xWL) ∧ (∀ k, k < 5 → parseFieldDescriptor (xT2 k).2.2.1 = some (xty0 2 k)) ∧ (∀ a, a < 5 → ∀ b, b < 5 → a ≠ b → (xT2 a).2.1 ≠ (xT2 b).2.1) ∧ (∀ j, j < 5 → defaultValue (xty0 2 j) = vp_V (xF0 2) j) := ⟨by decide +kernel, by decide +kernel, by decide +kernel, by decide +kernel⟩
set_option maxRecDepth 100000 in
theorem xu_3 : (∀ w ∈ u_ws xC3 xT3 4, w ∈ xWL) ∧ (∀ k, k < 4 → parseFieldDescriptor (xT3 k).2.2.1 = some (xty0 3 k)) ∧ (∀ a, a < 4 → ∀ b, b < 4 → a ≠ b → (xT3 a).2.1 ≠ (xT3 b).2.1) ∧ (∀ j, j < 4 → defaultValue (xty0 3 j) = vp_V (xF0 3) j) := ⟨by decide +kernel, by decide +kernel, by decide +kernel, by decide +kernel⟩
set_option maxRecDepth 100000 in
theorem xu_4 : (∀ w ∈ u_ws xC4 xT4 6, w ∈ xWL) ∧ (∀ k, k < 6 → parseFieldDescriptor (xT4 k).2.2.1 = some (xty0 4 k)) ∧ (∀ a, a < 6 → ∀ b, b < 6 → a ≠ b → (xT4 a).2.1 ≠ (xT4 b).2.1) ∧ (∀ j, j < 6 → defaultValue (xty0 4 j) = vp_V (xF0 4) j) := ⟨by decide +kernel, by decide +kernel, by decide +kernel, by decide +kernel⟩
set_option maxRecDepth 100000 in
theorem xu_5 : (∀ w ∈ u_ws xC5 xT5 5, w ∈ xWL) ∧ (∀ k, k < 5 → parseFieldDescriptor (xT5 k).2.2.1 = some (xty0 5 k)) ∧ (∀ a, a < 5 → ∀ b, b < 5 → a ≠ b → (xT5 a).2.1 ≠ (xT5 b).2.1) ∧ (∀ j, j < 5 → defaultValue (xty0 5 j) = vp_V (xF0 5) j) := ⟨by decide +kernel, by decide +kernel, by decide +kernel, by decide +kernel⟩
set_option maxRecDepth 100000 in
theorem xu_6 : (∀ w ∈ u_ws xC6 xT6 5, w ∈ xWL) ∧ (∀ k, k < 5 → parseFieldDescriptor (xT6 k).2.2.1 = some (xty0 6 k)) ∧ (∀ a, a < 5 → ∀ b, b < 5 → a ≠ b → (xT6 a).2.1 ≠ (xT6 b).2.1) ∧ (∀ j, j < 5 → defaultValue (xty0 6 j) = vp_V (xF0 6) j) := ⟨by decide +kernel, by decide +kernel, by decide +kernel, by decide +kernel⟩
set_option maxRecDepth 100000 in
theorem xu_7 : (∀ w ∈ u_ws xC7 xT7 31, w ∈ xWL) ∧ (∀ k, k < 31 → parseFieldDescriptor (xT7 k).2.2.1 = some (xty0 7 k)) ∧ (∀ a, a < 31 → ∀ b, b < 31 → a ≠ b → (xT7 a).2.1 ≠ (xT7 b).2.1) ∧ (∀ j, j < 31 → defaultValue (xty0 7 j) = vp_V (xF0 7) j) := ⟨by decide +kernel, by decide +kernel, by decide +kernel, by decide +kernel⟩
set_option maxRecDepth 100000 in
theorem xu_8 : (∀ w ∈ u_ws xC8 xT8 0, w ∈ xWL) ∧ (∀ k, k < 0 → parseFieldDescriptor (xT8 k).2.2.1 = some (xty0 8 k)) ∧ (∀ a, a < 0 → ∀ b, b < 0 → a ≠ b → (xT8 a).2.1 ≠ (xT8 b).2.1) ∧ (∀ j, j < 0 → defaultValue (xty0 8 j) = vp_V (xF0 8) j) := ⟨by decide +kernel, by decide +kernel, by decide +kernel, by decide +kernel⟩
set_option maxRecDepth 100000 in
theorem xu_9 : (∀ w ∈ u_ws xC9 xT9 0, w ∈ xWL) ∧ (∀ k, k < 0 → parseFieldDescriptor (xT9 k).2.2.1 = some (xty0 9 k)) ∧ (∀ a, a < 0 → ∀ b, b < 0 → a ≠ b → (xT9 a).2.1 ≠ (xT9 b).2.1) ∧ (∀ j, j < 0 → defaultValue (xty0 9 j) = vp_V (xF0 9) j) := ⟨by decide +kernel, by decide +kernel, by decide +kernel, by decide +kernel⟩
set_option maxRecDepth 100000 in
theorem xu_10 : (∀ w ∈ u_ws xC10 xT10 0, w ∈ xWL) ∧ (∀ k, k < 0 → parseFieldDescriptor (xT10 k).2.2.1 = some (xty0 10 k)) ∧ (∀ a, a < 0 → ∀ b, b < 0 → a ≠ b → (xT10 a).2.1 ≠ (xT10 b).2.1) ∧ (∀ j, j < 0 → defaultValue (xty0 10 j) = vp_V (xF0 10) j) := ⟨by decide +kernel, by decide +kernel, by decide +kernel, by decide +kernel⟩
theorem xU_all : ∀ (ci : Nat) (C : String) (T : u_T) (N : Nat), xcl[ci]? = some (C, T, N) → (∀ w ∈ u_ws C T N, w ∈ xWL) ∧ (∀ k, k < N → parseFieldDescriptor (T k).2.2.1 = some (xty0 ci k)) ∧ (∀ a, a < N → ∀ b, b < N → a ≠ b → (T a).2.1 ≠ (T b).2.1) ∧ (∀ j, j < N → defaultValue (xty0 ci j) = vp_V (xF0 ci) j) := by
  intro ci C T N h
  have hl : ci < 11 := (List.getElem?_eq_some_iff.mp h).1
  have hc : ci = 0 ∨ ci = 1 ∨ ci = 2 ∨ ci = 3 ∨ ci = 4 ∨ ci = 5 ∨ ci = 6 ∨ ci = 7 ∨ ci = 8 ∨ ci = 9 ∨ ci = 10 := by omega
  rcases hc with rfl | rfl | rfl | rfl | rfl | rfl | rfl | rfl | rfl | rfl | rfl
  · have e : some (xC0, xT0, 8) = some (C, T, N) := h
    cases e
    exact xu_0
  · have e : some (xC1, xT1, 5) = some (C, T, N) := h
    cases e
    exact xu_1
  · have e : some (xC2, xT2, 5) = some (C, T, N) := h
    cases e
    exact xu_2
  · have e : some (xC3, xT3, 4) = some (C, T, N) := h
    cases e
    exact xu_3
  · have e : some (xC4, xT4, 6) = some (C, T, N) := h
    cases e
    exact xu_4
  · have e : some (xC5, xT5, 5) = some (C, T, N) := h
    cases e
    exact xu_5
  · have e : some (xC6, xT6, 5) = some (C, T, N) := h
    cases e
    exact xu_6
  · have e : some (xC7, xT7, 31) = some (C, T, N) := h
    cases e
    exact xu_7
  · have e : some (xC8, xT8, 0) = some (C, T, N) := h
    cases e
    exact xu_8
  · have e : some (xC9, xT9, 0) = some (C, T, N) := h
    cases e
    exact xu_9
  · have e : some (xC10, xT10, 0) = some (C, T, N) := h
    cases e
    exact xu_10
theorem x_snd {l : Launch} {D : va_G} {H0 : Heap} {V : Nat → Value} (htr : ∀ e, l.admits e → e.platform.stackTraces = false) : ∀ n, xSnd l D xcl H0 V xF0 xG xWL xHL xSL xNM xEX xty0 xsf "PrePressRoom" xnG n
  | 0 => fun M f h hf o e => by cases e
  | n + 1 => x_step xU_all xG_good (x_throws htr (by decide +kernel) rfl) (x_snd htr n)
