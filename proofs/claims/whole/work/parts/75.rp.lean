theorem beq0 {t n : Nat} (h : Nat.beq t n = true) : t = n := Nat.eq_of_beq_eq_true h
theorem kp_op (V : Nat → Value) (F : Nat → List Value) (G : Nat → xM) (M : xM) (f : xF) (h : xH) (i : Instr) (nx a b : Nat) (v : Value) : xkp h (fun ih => xop V F G ih M f h i nx a b v) := by
  obtain ⟨pc, l, st⟩ := f
  cases i <;> dsimp only [xop] <;> repeat' first
    | exact kp_ih _ _ | exact kp_none | exact kp_call | exact kp_ret _ (xR0_refl _) | exact kp_ret _ (xR0_new _ _ _) | exact kp_to _ _ (xR0_new _ _ _) | exact kp_to _ _ (xR0_grid _ _ _ _ _)
    | refine kp_I1 (fun _ _ => ?_) | refine kp_I2 (fun _ _ _ => ?_) | refine kp_L1 (fun _ _ => ?_) | refine kp_L2 (fun _ _ _ => ?_) | refine kp_LI (fun _ _ _ => ?_)
    | refine kp_A1 (fun _ _ => ?_) | refine kp_AI (fun _ _ _ => ?_) | refine kp_AII (fun _ _ _ _ => ?_) | refine kp_AIL (fun _ _ _ _ => ?_) | refine kp_AIA (fun _ _ _ _ => ?_) | refine kp_AV (fun _ _ _ => ?_)
    | refine kp_copy (fun _ _ _ _ _ _ => ?_) | refine kp_vI (fun _ => ?_) | refine kp_vL (fun _ => ?_) | refine kp_vA (fun _ => ?_) | refine kp_vN (fun _ => ?_) | refine kp_vK (fun _ => ?_)
    | refine kp_cI (fun _ _ _ _ => ?_) | refine kp_cL (fun _ _ _ _ => ?_) | refine kp_cR (fun _ _ _ _ => ?_) | refine kp_cA (fun _ => ?_) | refine kp_cO (fun _ _ _ => ?_)
    | refine kp_S (fun _ => ?_) | refine kp_B (fun _ => ?_) | refine kp_N ?_ | refine kp_if ?_ ?_ | refine kp_ite ?_ ?_ | split
  all_goals refine kp_to _ _ (xR0_set (by assumption) ?_ _)
  all_goals intro z
  all_goals first
    | exact z
    | (have z' := (show _ = (3 : Nat) from z); subst z'; simp_all [Nat.beq]; done)
    | (have z' := (show _ = (3 : Nat) from z); simp_all [Nat.beq]; omega)
theorem xW_ro {V : Nat → Value} {F : Nat → List Value} {G : Nat → xM} : ∀ (n : Nat) (M : xM) (f : xF) (h : xH) (r : xR), xrun V F G n M f h = some r → xR0 h r.2
  | 0, _, _, _, _, h => by cases h
  | n + 1, M, f, h, r, hr => kp_S (k := fun ih (q : xI) => xop V F G ih M f h q.1 q.2.1 q.2.2.1 q.2.2.2.1 q.2.2.2.2.1) (fun q => kp_op V F G M f h _ _ _ _ _) (xrun V F G n) (xW_ro n) r hr
