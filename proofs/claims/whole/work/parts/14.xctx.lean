/-! every run of the small machine is a run of the machine -/
def xWd (WL : List Cond) (s : State) : Prop := ∀ w ∈ WL, ∀ (a : Array Value) (U : State), s.WarmedH U.vm → w.before a U = true
def xHw (HL : List Cond) (H0 : Heap) (s : State) : Prop := ∀ w ∈ HL, ∀ (a : Array Value) (U : State), s.WarmedH U.vm → (∀ q : Nat, q < H0.size → U.heap[q]? = H0[q]?) → w.before a U = true
def xSw (SL : List (String × Nat × String)) (s : State) : Prop := ∀ q ∈ SL, ∃ a : Nat, ∀ U : State, s.WarmedH U.vm → vk_R q.1 q.2.1 q.2.2 a U
def xEx (D : va_G) (cl : List vw_C) (EX : List Nat) (s : State) : Prop := ∀ k ∈ EX, (∃ r : vw_C, cl[k]? = some r) ∧ ∀ k' ∈ EX, (s.vm.assignable (D.1 k) (D.1 k') = true ↔ k' = k)
def xSF (D : va_G) (cl : List vw_C) (H0 : Heap) (WL HL : List Cond) (SL : List (String × Nat × String)) (EX : List Nat) (V : Nat → Value) (sf : String × String × String) (s : State) : Prop :=
  xWd WL s ∧ xHw HL H0 s ∧ xSw SL s ∧ xEx D cl EX s ∧ va_K D cl [] s ∧ va_Z sf.1 sf.2.1 sf.2.2 (V 0) (fun q => H0.size ≤ q) s H0
theorem xSF.moved {D : va_G} {cl : List vw_C} {H0 : Heap} {WL HL : List Cond} {SL : List (String × Nat × String)} {EX : List Nat} {V : Nat → Value} {sf : String × String × String} {s u : State} (h : xSF D cl H0 WL HL SL EX V sf s) (hW : s.WarmedH u.vm) : xSF D cl H0 WL HL SL EX V sf u := by
  obtain ⟨h1, h2, h3, h4, h5, h6⟩ := h
  refine ⟨fun w hw a U hU => h1 w hw a U (State.WarmedH.trans hW hU), fun w hw a U hU hq => h2 w hw a U (State.WarmedH.trans hW hU) hq, fun q hq => ?_, fun k hk => ⟨(h4 k hk).1, fun k' hk' => ?_⟩, va_K.moved hW.alike h5, va_Z.moved hW.alike h6⟩
  · obtain ⟨a, ha⟩ := h3 q hq
    exact ⟨a, fun U hU => ha U (State.WarmedH.trans hW hU)⟩
  · rw [hW.alike.assignable]
    exact (h4 k hk).2 k' hk'
def xout (o : xO) (hf : xH) (oc : Outcome) : Prop := match o with
  | .inl v => oc = .returned v
  | .inr q => oc = .threw q.2 ∧ hf.1 q.2 = some (xO' q.1 [])
def xQ (D : va_G) (cl : List vw_C) (H0 : Heap) (s : State) (below : List Frame) (o : xO) (hf : xH) (N0 S0 : Nat) : State → Prop := fun t =>
  ∃ oc, t.status = .running ∧ Ended t below oc ∧ xout o hf oc ∧ xHR D cl H0 s hf t.heap ∧ s.WarmedH t.vm ∧ ∃ L, s.sameButNew ({ t with vm := s.vm } : State) L (hf.2.1 - N0) (hf.2.2 - S0) ∧ ∀ q ∈ L, H0.size ≤ q.base
def xgood (WL HL : List Cond) (cl : List vw_C) (SL : List (String × Nat × String)) (NM : List String) (EX : List Nat) (ty0 : Nat → Nat → FieldType) (sf : String × String × String) (host : String) (nG : Nat) (G : Nat → xM) (M : xM) : Prop :=
  (∃ hs, xmok WL cl M hs = true) ∧ (∀ y ∈ xhs M, y.2.2.2.2 ∈ EX) ∧ ∀ (pc : Nat) (e : xI), xcd M pc = some e → xok WL HL cl SL NM ty0 sf host nG G M pc e = true
def xCx (D : va_G) (cl : List vw_C) (H0 : Heap) (WL HL : List Cond) (SL : List (String × Nat × String)) (NM : List String) (EX : List Nat) (V : Nat → Value) (ty0 : Nat → Nat → FieldType) (sf : String × String × String) (host : String) (nG : Nat) (G : Nat → xM) (M : xM)
    (p : Program) (R : Room) (s : State) (m : MethodId) (meth : Method) (c : Code) : Prop :=
  p.tables.exec = Jvm.exec ∧ c.code = xby M ∧ c.maxLocals = xml M ∧ meth.sig.returnType = xrt M ∧ meth.locks = false ∧ s.methodNamed? (xnm M) = some m ∧ s.vm.method? m = some meth ∧
  c.exceptionTable.toList.map (fun x => (x.startPc, x.endPc, x.handlerPc, x.catchType)) = (xhs M).map (fun y => (y.1, y.2.1, y.2.2.1, y.2.2.2.1)) ∧ xSF D cl H0 WL HL SL EX V sf s ∧ xdp M ≤ R.frames ∧ xlc M ≤ R.locals ∧ xgood WL HL cl SL NM EX ty0 sf host nG G M
/-- the heap only grows -/
theorem xback_mono {ih : xM → xF → xH → Option xR} (hm : ∀ M f h r, ih M f h = some r → h.2.1 ≤ r.2.2.1 ∧ h.2.2 ≤ r.2.2.2) {M : xM} {pc nx : Nat} {l : List (Option Value)} {rest : List Value} {r0 r : xR} (h : xback ih M pc nx l rest r0 = some r) : r0.2.2.1 ≤ r.2.2.1 ∧ r0.2.2.2 ≤ r.2.2.2 := by
  unfold xback at h
  split at h
  · exact hm _ _ _ _ h
  · exact hm _ _ _ _ h
  · split at h
    · cases h; exact ⟨Nat.le_refl _, Nat.le_refl _⟩
    · obtain ⟨p, -, h⟩ := xS_s h
      exact hm _ _ _ _ h
theorem xcall_mono {G : Nat → xM} {ih : xM → xF → xH → Option xR} (hm : ∀ M f h r, ih M f h = some r → h.2.1 ≤ r.2.2.1 ∧ h.2.2 ≤ r.2.2.2) {M : xM} {pc nx z : Nat} {l : List (Option Value)} {as rest : List Value} {h : xH} {r : xR} (hc : xcall G ih M pc nx l z as rest h = some r) : h.2.1 ≤ r.2.2.1 ∧ h.2.2 ≤ r.2.2.2 := by
  obtain ⟨-, hc⟩ := xB_s hc
  obtain ⟨r0, h0, hc⟩ := xS_s hc
  have h1 := hm _ _ _ _ h0
  have h2 := xback_mono hm hc
  exact ⟨Nat.le_trans h1.1 h2.1, Nat.le_trans h1.2 h2.2⟩
theorem xbody_mono {V : Nat → Value} {F : Nat → List Value} {G : Nat → xM} {ih : xM → xF → xH → Option xR} (hm : ∀ M f h r, ih M f h = some r → h.2.1 ≤ r.2.2.1 ∧ h.2.2 ≤ r.2.2.2) {M : xM} {f : xF} {h : xH} {r : xR} (hb : xbody V F G ih M f h = some r) : h.2.1 ≤ r.2.2.1 ∧ h.2.2 ≤ r.2.2.2 := by
  obtain ⟨⟨i, nx, a, b, v, hs⟩, -, hb⟩ := xS_s hb
  unfold xop at hb
  dsimp only at hb
  · split at hb
    · exact hm _ _ _ _ hb
    · exact hm _ _ _ _ hb
    · exact hm _ _ _ _ hb
    · exact hm _ _ _ _ hb
    · exact hm _ _ _ _ hb
    · exact hm _ _ _ _ hb
    · exact hm _ _ _ _ hb
    · exact hm _ _ _ _ hb
    · obtain ⟨_, -, hb⟩ := xvI_s hb
      exact hm _ _ _ _ hb
    · obtain ⟨_, -, hb⟩ := xvI_s hb
      exact hm _ _ _ _ hb
    · obtain ⟨_, -, hb⟩ := xvL_s hb
      exact hm _ _ _ _ hb
    · obtain ⟨_, -, hb⟩ := xvL_s hb
      exact hm _ _ _ _ hb
    · obtain ⟨_, -, hb⟩ := xvA_s hb
      exact hm _ _ _ _ hb
    · obtain ⟨_, -, hb⟩ := xvA_s hb
      exact hm _ _ _ _ hb
    · obtain ⟨_, _, -, hb⟩ := xI1_s hb
      obtain ⟨_, -, hb⟩ := xS_s hb
      exact hm _ _ _ _ hb
    · obtain ⟨_, _, -, hb⟩ := xI1_s hb
      obtain ⟨_, -, hb⟩ := xS_s hb
      exact hm _ _ _ _ hb
    · obtain ⟨_, _, -, hb⟩ := xA1_s hb
      obtain ⟨_, -, hb⟩ := xS_s hb
      exact hm _ _ _ _ hb
    · obtain ⟨_, _, -, hb⟩ := xA1_s hb
      obtain ⟨_, -, hb⟩ := xS_s hb
      exact hm _ _ _ _ hb
    · obtain ⟨_, _, -, hb⟩ := xL1_s hb
      obtain ⟨_, -, hb⟩ := xS_s hb
      exact hm _ _ _ _ hb
    · obtain ⟨_, _, -, hb⟩ := xL1_s hb
      obtain ⟨_, -, hb⟩ := xS_s hb
      exact hm _ _ _ _ hb
    · obtain ⟨_, -, hb⟩ := xvI_s hb
      obtain ⟨_, -, hb⟩ := xvN_s hb
      obtain ⟨_, -, hb⟩ := xS_s hb
      exact hm _ _ _ _ hb
    · obtain ⟨_, _, _, -, hb⟩ := xI2_s hb
      exact hm _ _ _ _ hb
    · obtain ⟨_, _, _, -, hb⟩ := xI2_s hb
      exact hm _ _ _ _ hb
    · obtain ⟨_, _, _, -, hb⟩ := xI2_s hb
      exact hm _ _ _ _ hb
    · obtain ⟨_, _, _, -, hb⟩ := xI2_s hb
      exact hm _ _ _ _ hb
    · obtain ⟨_, _, _, -, hb⟩ := xI2_s hb
      exact hm _ _ _ _ hb
    · obtain ⟨_, _, _, -, hb⟩ := xI2_s hb
      exact hm _ _ _ _ hb
    · obtain ⟨_, _, _, -, hb⟩ := xI2_s hb
      exact hm _ _ _ _ hb
    · obtain ⟨_, _, _, -, hb⟩ := xI2_s hb
      exact hm _ _ _ _ hb
    · obtain ⟨_, _, _, -, hb⟩ := xI2_s hb
      exact hm _ _ _ _ hb
    · obtain ⟨_, _, _, -, hb⟩ := xI2_s hb
      obtain ⟨-, hb⟩ := xN_s hb
      exact hm _ _ _ _ hb
    · obtain ⟨_, _, _, -, hb⟩ := xI2_s hb
      obtain ⟨-, hb⟩ := xN_s hb
      exact hm _ _ _ _ hb
    · obtain ⟨_, _, -, hb⟩ := xI1_s hb
      exact hm _ _ _ _ hb
    · obtain ⟨_, _, _, -, hb⟩ := xL2_s hb
      exact hm _ _ _ _ hb
    · obtain ⟨_, _, _, -, hb⟩ := xL2_s hb
      exact hm _ _ _ _ hb
    · obtain ⟨_, _, _, -, hb⟩ := xL2_s hb
      exact hm _ _ _ _ hb
    · obtain ⟨_, _, _, -, hb⟩ := xL2_s hb
      exact hm _ _ _ _ hb
    · obtain ⟨_, _, _, -, hb⟩ := xLI_s hb
      exact hm _ _ _ _ hb
    · obtain ⟨_, _, _, -, hb⟩ := xLI_s hb
      exact hm _ _ _ _ hb
    · obtain ⟨_, _, _, -, hb⟩ := xL2_s hb
      exact hm _ _ _ _ hb
    · obtain ⟨_, _, -, hb⟩ := xI1_s hb
      exact hm _ _ _ _ hb
    · obtain ⟨_, _, -, hb⟩ := xL1_s hb
      exact hm _ _ _ _ hb
    · split at hb
      · exact hm _ _ _ _ (xB_s hb).2
      · cases hb
    · split at hb
      · exact hm _ _ _ _ (xB_s hb).2
      · cases hb
    · split at hb
      · exact hm _ _ _ _ (xB_s hb).2
      · cases hb
    · split at hb
      · exact hm _ _ _ _ (xB_s hb).2
      · cases hb
    · split at hb
      · exact hm _ _ _ _ (xB_s hb).2
      · cases hb
    · obtain ⟨_, _, -, hb⟩ := xI1_s hb
      unfold xif at hb
      repeat' split at hb
      all_goals exact hm _ _ _ _ hb
    · obtain ⟨_, _, _, -, hb⟩ := xI2_s hb
      unfold xif at hb
      repeat' split at hb
      all_goals exact hm _ _ _ _ hb
    · exact hm _ _ _ _ hb
    · obtain ⟨_, _, -, hb⟩ := xI1_s hb
      split at hb
      · exact hm _ _ _ _ hb
      · obtain ⟨_, -, hb⟩ := xS_s hb
        exact hm _ _ _ _ (xN_s hb).2
    · split at hb
      · cases hb; exact ⟨Nat.le_refl _, Nat.le_refl _⟩
      · obtain ⟨-, hb⟩ := xB_s hb
        cases hb; exact ⟨Nat.le_refl _, Nat.le_refl _⟩
      · cases hb
    · split at hb
      · cases hb; exact ⟨Nat.le_refl _, Nat.le_refl _⟩
      · cases hb
    · split at hb
      · cases hb; exact ⟨Nat.le_refl _, Nat.le_refl _⟩
      · cases hb; exact ⟨Nat.le_refl _, Nat.le_refl _⟩
      · cases hb
    · split at hb
      · cases hb; exact ⟨Nat.le_refl _, Nat.le_refl _⟩
      · cases hb
    · obtain ⟨_, _, -, hb⟩ := xA1_s hb
      obtain ⟨_, _, -, hb⟩ := xcO_s hb
      obtain ⟨-, hb⟩ := xB_s hb
      obtain ⟨_, -, hb⟩ := xS_s hb
      exact hm _ _ _ _ hb
    · obtain ⟨_, _, _, -, hb⟩ := xAV_s hb
      obtain ⟨_, -, hb⟩ := xvK_s hb
      obtain ⟨_, _, -, hb⟩ := xcO_s hb
      obtain ⟨-, hb⟩ := xB_s hb
      have h1 := hm _ _ _ _ hb
      exact h1
    · obtain ⟨_, _, _, -, hb⟩ := xAI_s hb
      obtain ⟨_, _, _, -, hb⟩ := xcI_s hb
      obtain ⟨-, hb⟩ := xB_s hb
      exact hm _ _ _ _ (xN_s hb).2
    · obtain ⟨_, _, _, -, hb⟩ := xAI_s hb
      obtain ⟨_, _, _, -, hb⟩ := xcI_s hb
      obtain ⟨-, hb⟩ := xB_s hb
      exact hm _ _ _ _ (xN_s hb).2
    · obtain ⟨_, _, _, -, hb⟩ := xAI_s hb
      obtain ⟨_, _, _, -, hb⟩ := xcL_s hb
      obtain ⟨-, hb⟩ := xB_s hb
      exact hm _ _ _ _ (xN_s hb).2
    · obtain ⟨_, _, _, -, hb⟩ := xAI_s hb
      obtain ⟨_, _, _, -, hb⟩ := xcR_s hb
      obtain ⟨-, hb⟩ := xB_s hb
      obtain ⟨-, hb⟩ := xN_s hb
      obtain ⟨_, -, hb⟩ := xS_s hb
      exact hm _ _ _ _ hb
    · obtain ⟨_, _, _, _, -, hb⟩ := xAII_s hb
      obtain ⟨_, _, _, -, hb⟩ := xcI_s hb
      obtain ⟨-, hb⟩ := xB_s hb
      have h1 := hm _ _ _ _ (xN_s hb).2
      exact h1
    · obtain ⟨_, _, _, _, -, hb⟩ := xAII_s hb
      obtain ⟨_, _, _, -, hb⟩ := xcI_s hb
      obtain ⟨-, hb⟩ := xB_s hb
      have h1 := hm _ _ _ _ (xN_s hb).2
      exact h1
    · obtain ⟨_, _, _, _, -, hb⟩ := xAIL_s hb
      obtain ⟨_, _, _, -, hb⟩ := xcL_s hb
      obtain ⟨-, hb⟩ := xB_s hb
      have h1 := hm _ _ _ _ (xN_s hb).2
      exact h1
    · obtain ⟨_, _, _, _, -, hb⟩ := xAIA_s hb
      obtain ⟨_, _, _, -, hb⟩ := xcR_s hb
      obtain ⟨_, _, -, hb⟩ := xcO_s hb
      obtain ⟨-, hb⟩ := xB_s hb
      have h1 := hm _ _ _ _ (xN_s hb).2
      exact h1
    · obtain ⟨_, _, -, hb⟩ := xA1_s hb
      obtain ⟨_, _, _, -, hb⟩ := xcA_s hb
      exact hm _ _ _ _ hb
    · obtain ⟨_, _, -, hb⟩ := xI1_s hb
      have h1 := hm _ _ _ _ (xN_s hb).2
      exact ⟨Nat.le_trans (Nat.le_succ _) h1.1, Nat.le_trans (Nat.le_add_right _ _) h1.2⟩
    · obtain ⟨_, _, -, hb⟩ := xI1_s hb
      have h1 := hm _ _ _ _ (xN_s hb).2
      exact ⟨Nat.le_trans (Nat.le_succ _) h1.1, Nat.le_trans (Nat.le_add_right _ _) h1.2⟩
    · obtain ⟨_, _, _, -, hb⟩ := xI2_s hb
      have h1 := hm _ _ _ _ (xN_s hb).2
      simp only [xgrid] at h1
      omega
    · split at hb
      · split at hb
        · cases hb; exact ⟨Nat.le_succ _, Nat.le_add_right _ _⟩
        · cases hb
      · have h1 := hm _ _ _ _ hb
        exact ⟨Nat.le_trans (Nat.le_succ _) h1.1, Nat.le_trans (Nat.le_add_right _ _) h1.2⟩
    · split at hb
      · obtain ⟨_, _, _, _, _, _, -, hb⟩ := xcopy_s hb
        obtain ⟨_, _, _, -, hb⟩ := xcI_s hb
        obtain ⟨_, _, _, -, hb⟩ := xcI_s hb
        obtain ⟨-, hb⟩ := xB_s hb
        obtain ⟨-, hb⟩ := xN_s hb
        have h1 := hm _ _ _ _ (xB_s hb).2
        exact h1
      · obtain ⟨_, -, hb⟩ := xS_s hb
        exact xcall_mono hm hb
    · obtain ⟨_, -, hb⟩ := xS_s hb
      split at hb
      · obtain ⟨_, -, hb⟩ := xvK_s hb
        obtain ⟨_, _, -, hb⟩ := xcO_s hb
        exact xcall_mono hm (xB_s hb).2
      · cases hb
    · split at hb
      · obtain ⟨_, _, -, hb⟩ := xA1_s hb
        exact hm _ _ _ _ (xB_s hb).2
      · obtain ⟨_, -, hb⟩ := xS_s hb
        split at hb
        · exact xcall_mono hm hb
        · cases hb
    · cases hb
theorem xrun_mono {V : Nat → Value} {F : Nat → List Value} {G : Nat → xM} : ∀ (n : Nat) (M : xM) (f : xF) (h : xH) (r : xR), xrun V F G n M f h = some r → h.2.1 ≤ r.2.2.1 ∧ h.2.2 ≤ r.2.2.2
  | 0, _, _, _, _, h => by cases h
  | n + 1, M, f, h, r, hr => xbody_mono (ih := xrun V F G n) (xrun_mono n) hr
