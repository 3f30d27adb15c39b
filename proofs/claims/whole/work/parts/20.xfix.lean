/-! the small machine without its fuel: a map that keeps its own equation -/
def xfin (k : (xM → xF → xH → Option xR) → Option xR) : Prop :=
  ∀ ih r, k ih = some r → ∃ P : List (xM × xF × xH × xR), (∀ p ∈ P, ih p.1 p.2.1 p.2.2.1 = some p.2.2.2) ∧ ∀ ih', (∀ p ∈ P, ih' p.1 p.2.1 p.2.2.1 = some p.2.2.2) → k ih' = some r
theorem fin_c (o : Option xR) : xfin (fun _ => o) := fun _ _ h => ⟨[], by simp, fun _ _ => h⟩
theorem fin_ih (M : xM) (f : xF) (h : xH) : xfin (fun ih => ih M f h) := fun ih r hr => ⟨[(M, f, h, r)], by simpa using hr, fun ih' h' => h' (M, f, h, r) (by simp)⟩
theorem fin_ite {c : Prop} {i : Decidable c} {A B : (xM → xF → xH → Option xR) → Option xR} (a : xfin A) (b : xfin B) : xfin (fun ih => @ite _ c i (A ih) (B ih)) := by
  by_cases hc : c
  · simp only [hc, if_true]; exact a
  · simp only [hc, if_false]; exact b
theorem fin_bind {A : (xM → xF → xH → Option xR) → Option xR} {k : (xM → xF → xH → Option xR) → xR → Option xR} (a : xfin A) (b : ∀ r, xfin (fun ih => k ih r)) : xfin (fun ih => xS (A ih) (k ih)) := by
  intro ih r hr
  obtain ⟨x, e, hk⟩ := xS_s hr
  obtain ⟨P, p1, p2⟩ := a ih x e
  obtain ⟨P', q1, q2⟩ := b x ih r hk
  refine ⟨P ++ P', fun p hp => ?_, fun ih' h' => ?_⟩
  · rcases List.mem_append.mp hp with z | z
    · exact p1 p z
    · exact q1 p z
  · show xS (A ih') (k ih') = some r
    rw [p2 ih' (fun p hp => h' p (List.mem_append_left _ hp))]
    exact q2 ih' (fun p hp => h' p (List.mem_append_right _ hp))
theorem fin_I1 {st : List Value} {k : (xM → xF → xH → Option xR) → Int32 → List Value → Option xR} (b : ∀ x t, xfin (fun ih => k ih x t)) : xfin (fun ih => xI1 st (k ih)) := by
  intro ih r hr
  obtain ⟨x, t, e, hk⟩ := xI1_s hr
  subst e
  exact b x t ih r hk
theorem fin_I2 {st : List Value} {k : (xM → xF → xH → Option xR) → Int32 → Int32 → List Value → Option xR} (b : ∀ x y t, xfin (fun ih => k ih x y t)) : xfin (fun ih => xI2 st (k ih)) := by
  intro ih r hr
  obtain ⟨x, y, t, e, hk⟩ := xI2_s hr
  subst e
  exact b x y t ih r hk
theorem fin_L1 {st : List Value} {k : (xM → xF → xH → Option xR) → Int64 → List Value → Option xR} (b : ∀ x t, xfin (fun ih => k ih x t)) : xfin (fun ih => xL1 st (k ih)) := by
  intro ih r hr
  obtain ⟨x, t, e, hk⟩ := xL1_s hr
  subst e
  exact b x t ih r hk
theorem fin_L2 {st : List Value} {k : (xM → xF → xH → Option xR) → Int64 → Int64 → List Value → Option xR} (b : ∀ x y t, xfin (fun ih => k ih x y t)) : xfin (fun ih => xL2 st (k ih)) := by
  intro ih r hr
  obtain ⟨x, y, t, e, hk⟩ := xL2_s hr
  subst e
  exact b x y t ih r hk
theorem fin_LI {st : List Value} {k : (xM → xF → xH → Option xR) → Int64 → Int32 → List Value → Option xR} (b : ∀ x y t, xfin (fun ih => k ih x y t)) : xfin (fun ih => xLI st (k ih)) := by
  intro ih r hr
  obtain ⟨x, y, t, e, hk⟩ := xLI_s hr
  subst e
  exact b x y t ih r hk
theorem fin_A1 {st : List Value} {k : (xM → xF → xH → Option xR) → Nat → List Value → Option xR} (b : ∀ x t, xfin (fun ih => k ih x t)) : xfin (fun ih => xA1 st (k ih)) := by
  intro ih r hr
  obtain ⟨x, t, e, hk⟩ := xA1_s hr
  subst e
  exact b x t ih r hk
theorem fin_AI {st : List Value} {k : (xM → xF → xH → Option xR) → Nat → Int32 → List Value → Option xR} (b : ∀ x y t, xfin (fun ih => k ih x y t)) : xfin (fun ih => xAI st (k ih)) := by
  intro ih r hr
  obtain ⟨x, y, t, e, hk⟩ := xAI_s hr
  subst e
  exact b x y t ih r hk
theorem fin_AII {st : List Value} {k : (xM → xF → xH → Option xR) → Nat → Int32 → Int32 → List Value → Option xR} (b : ∀ x y z t, xfin (fun ih => k ih x y z t)) : xfin (fun ih => xAII st (k ih)) := by
  intro ih r hr
  obtain ⟨x, y, z, t, e, hk⟩ := xAII_s hr
  subst e
  exact b x y z t ih r hk
theorem fin_AIL {st : List Value} {k : (xM → xF → xH → Option xR) → Nat → Int32 → Int64 → List Value → Option xR} (b : ∀ x y z t, xfin (fun ih => k ih x y z t)) : xfin (fun ih => xAIL st (k ih)) := by
  intro ih r hr
  obtain ⟨x, y, z, t, e, hk⟩ := xAIL_s hr
  subst e
  exact b x y z t ih r hk
theorem fin_AIA {st : List Value} {k : (xM → xF → xH → Option xR) → Nat → Int32 → Nat → List Value → Option xR} (b : ∀ x y z t, xfin (fun ih => k ih x y z t)) : xfin (fun ih => xAIA st (k ih)) := by
  intro ih r hr
  obtain ⟨x, y, z, t, e, hk⟩ := xAIA_s hr
  subst e
  exact b x y z t ih r hk
theorem fin_AV {st : List Value} {k : (xM → xF → xH → Option xR) → Nat → Value → List Value → Option xR} (b : ∀ x y t, xfin (fun ih => k ih x y t)) : xfin (fun ih => xAV st (k ih)) := by
  intro ih r hr
  obtain ⟨x, y, t, e, hk⟩ := xAV_s hr
  subst e
  exact b x y t ih r hk
theorem fin_copy {st : List Value} {k : (xM → xF → xH → Option xR) → Nat → Int32 → Nat → Int32 → Int32 → List Value → Option xR} (b : ∀ x y z u v t, xfin (fun ih => k ih x y z u v t)) : xfin (fun ih => xcopy st (k ih)) := by
  intro ih r hr
  obtain ⟨x, y, z, u, v, t, e, hk⟩ := xcopy_s hr
  subst e
  exact b x y z u v t ih r hk
theorem fin_vI {o : Option Value} {k : (xM → xF → xH → Option xR) → Int32 → Option xR} (b : ∀ x, xfin (fun ih => k ih x)) : xfin (fun ih => xvI o (k ih)) := by
  intro ih r hr
  obtain ⟨x, e, hk⟩ := xvI_s hr
  subst e
  exact b x ih r hk
theorem fin_vL {o : Option Value} {k : (xM → xF → xH → Option xR) → Int64 → Option xR} (b : ∀ x, xfin (fun ih => k ih x)) : xfin (fun ih => xvL o (k ih)) := by
  intro ih r hr
  obtain ⟨x, e, hk⟩ := xvL_s hr
  subst e
  exact b x ih r hk
theorem fin_vA {o : Option Value} {k : (xM → xF → xH → Option xR) → Nat → Option xR} (b : ∀ x, xfin (fun ih => k ih x)) : xfin (fun ih => xvA o (k ih)) := by
  intro ih r hr
  obtain ⟨x, e, hk⟩ := xvA_s hr
  subst e
  exact b x ih r hk
theorem fin_vN {o : Value} {k : (xM → xF → xH → Option xR) → Int32 → Option xR} (b : ∀ x, xfin (fun ih => k ih x)) : xfin (fun ih => xvN o (k ih)) := by
  intro ih r hr
  obtain ⟨x, e, hk⟩ := xvN_s hr
  subst e
  exact b x ih r hk
theorem fin_vK {o : Value} {k : (xM → xF → xH → Option xR) → Nat → Option xR} (b : ∀ x, xfin (fun ih => k ih x)) : xfin (fun ih => xvK o (k ih)) := by
  intro ih r hr
  obtain ⟨x, e, hk⟩ := xvK_s hr
  subst e
  exact b x ih r hk
theorem fin_S {α : Type} {o : Option α} {k : (xM → xF → xH → Option xR) → α → Option xR} (b : ∀ x, xfin (fun ih => k ih x)) : xfin (fun ih => xS o (k ih)) := by
  intro ih r hr
  obtain ⟨x, e, hk⟩ := xS_s hr
  subst e
  exact b x ih r hk
theorem fin_B {o : Bool} {k : (xM → xF → xH → Option xR) → Option xR} (b : xfin k) : xfin (fun ih => xB o (k ih)) := by
  intro ih r hr
  obtain ⟨e, hk⟩ := xB_s hr
  subst e
  exact b ih r hk
theorem fin_N {c : Prop} {i : Decidable c} {k : (xM → xF → xH → Option xR) → Option xR} (b : xfin k) : xfin (fun ih => @xN c i (k ih)) := by
  by_cases hc : c
  · simp only [xN, hc, if_true]; exact fin_c _
  · simp only [xN, hc, if_false]; exact b
theorem fin_cI {o : Option xE} {k : (xM → xF → xH → Option xR) → Nat → Nat → (Nat → Int32) → Option xR} (b : ∀ x y z, xfin (fun ih => k ih x y z)) : xfin (fun ih => xcI o (k ih)) := by
  intro ih r hr
  obtain ⟨x, y, z, e, hk⟩ := xcI_s hr
  subst e
  exact b x y z ih r hk
theorem fin_cL {o : Option xE} {k : (xM → xF → xH → Option xR) → Nat → Nat → (Nat → Int64) → Option xR} (b : ∀ x y z, xfin (fun ih => k ih x y z)) : xfin (fun ih => xcL o (k ih)) := by
  intro ih r hr
  obtain ⟨x, y, z, e, hk⟩ := xcL_s hr
  subst e
  exact b x y z ih r hk
theorem fin_cR {o : Option xE} {k : (xM → xF → xH → Option xR) → Nat → Nat → (Nat → Option Nat) → Option xR} (b : ∀ x y z, xfin (fun ih => k ih x y z)) : xfin (fun ih => xcR o (k ih)) := by
  intro ih r hr
  obtain ⟨x, y, z, e, hk⟩ := xcR_s hr
  subst e
  exact b x y z ih r hk
theorem fin_cA {o : Option xE} {k : (xM → xF → xH → Option xR) → Nat → Option xR} (b : ∀ x, xfin (fun ih => k ih x)) : xfin (fun ih => xcA o (k ih)) := by
  intro ih r hr
  obtain ⟨x, y, z, e, hk⟩ := xcA_s hr
  subst e
  exact b y ih r hk
theorem fin_cO {o : Option xE} {k : (xM → xF → xH → Option xR) → Nat → List Value → Option xR} (b : ∀ x y, xfin (fun ih => k ih x y)) : xfin (fun ih => xcO o (k ih)) := by
  intro ih r hr
  obtain ⟨x, y, e, hk⟩ := xcO_s hr
  subst e
  exact b x y ih r hk
theorem fin_if {c : ClassFile.Cond} {x y : Int32} {A B : (xM → xF → xH → Option xR) → Option xR} (a : xfin A) (b : xfin B) : xfin (fun ih => xif c x y (A ih) (B ih)) := by
  cases c
  · exact fin_ite a b
  · exact fin_ite b a
  · exact fin_ite a b
  · exact fin_ite a b
  · exact fin_ite a b
  · exact fin_ite a b
theorem fin_back {M : xM} {pc nx : Nat} {l : List (Option Value)} {rest : List Value} (r : xR) : xfin (fun ih => xback ih M pc nx l rest r) := by
  obtain ⟨o, h⟩ := r
  rcases o with o | ⟨c, a⟩
  · cases o with
    | none => exact fin_ih _ _ _
    | some v => exact fin_ih _ _ _
  · unfold xback
    cases xhs M with
    | nil => exact fin_c _
    | cons q t => exact fin_S (fun p => fin_ih _ _ _)
theorem fin_call {G : Nat → xM} {M : xM} {pc nx : Nat} {l : List (Option Value)} {z : Nat} {as rest : List Value} {h : xH} : xfin (fun ih => xcall G ih M pc nx l z as rest h) :=
  fin_B (fin_bind (fin_ih _ _ _) (fun r => fin_back r))
theorem fin_op (V : Nat → Value) (F : Nat → List Value) (G : Nat → xM) (M : xM) (f : xF) (h : xH) (i : Instr) (nx a b : Nat) (v : Value) : xfin (fun ih => xop V F G ih M f h i nx a b v) := by
  obtain ⟨pc, l, st⟩ := f
  cases i <;> dsimp only [xop] <;> repeat' first
    | exact fin_ih _ _ _ | exact fin_c _ | exact fin_call
    | refine fin_I1 (fun _ _ => ?_) | refine fin_I2 (fun _ _ _ => ?_) | refine fin_L1 (fun _ _ => ?_) | refine fin_L2 (fun _ _ _ => ?_) | refine fin_LI (fun _ _ _ => ?_)
    | refine fin_A1 (fun _ _ => ?_) | refine fin_AI (fun _ _ _ => ?_) | refine fin_AII (fun _ _ _ _ => ?_) | refine fin_AIL (fun _ _ _ _ => ?_) | refine fin_AIA (fun _ _ _ _ => ?_) | refine fin_AV (fun _ _ _ => ?_)
    | refine fin_copy (fun _ _ _ _ _ _ => ?_) | refine fin_vI (fun _ => ?_) | refine fin_vL (fun _ => ?_) | refine fin_vA (fun _ => ?_) | refine fin_vN (fun _ => ?_) | refine fin_vK (fun _ => ?_)
    | refine fin_cI (fun _ _ _ => ?_) | refine fin_cL (fun _ _ _ => ?_) | refine fin_cR (fun _ _ _ => ?_) | refine fin_cA (fun _ => ?_) | refine fin_cO (fun _ _ => ?_)
    | refine fin_S (fun _ => ?_) | refine fin_B ?_ | refine fin_N ?_ | refine fin_if ?_ ?_ | refine fin_ite ?_ ?_ | split
theorem fin_body (V : Nat → Value) (F : Nat → List Value) (G : Nat → xM) (M : xM) (f : xF) (h : xH) : xfin (fun ih => xbody V F G ih M f h) := fin_S (fun _ => fin_op V F G M f h _ _ _ _ _)
theorem xrun_up (V : Nat → Value) (F : Nat → List Value) (G : Nat → xM) : ∀ (n : Nat) (M : xM) (f : xF) (h : xH) (r : xR), xrun V F G n M f h = some r → xrun V F G (n + 1) M f h = some r := by
  intro n
  induction n with
  | zero => intro M f h r hr; cases hr
  | succ n ih =>
    intro M f h r hr
    obtain ⟨P, p1, p2⟩ := fin_body V F G M f h (xrun V F G n) r hr
    exact p2 (xrun V F G (n + 1)) (fun p hp => ih _ _ _ _ (p1 p hp))
theorem xrun_ge (V : Nat → Value) (F : Nat → List Value) (G : Nat → xM) {n k : Nat} (hk : n ≤ k) {M : xM} {f : xF} {h : xH} {r : xR} (hr : xrun V F G n M f h = some r) : xrun V F G k M f h = some r := by
  induction hk with
  | refl => exact hr
  | step _ ih => exact xrun_up V F G _ M f h r ih
theorem xw_ex (V : Nat → Value) (F : Nat → List Value) (G : Nat → xM) : ∃ W : xM → xF → xH → Option xR, (∀ M f h r, W M f h = some r → ∃ n, xrun V F G n M f h = some r) ∧ ∀ M f h, W M f h = xbody V F G W M f h := by
  have h0 : ∀ q : xM × xF × xH, ∃ o : Option xR, ∀ r, o = some r ↔ ∃ n, xrun V F G n q.1 q.2.1 q.2.2 = some r := by
    intro q
    by_cases hx : ∃ r n, xrun V F G n q.1 q.2.1 q.2.2 = some r
    · obtain ⟨r, n, hr⟩ := hx
      refine ⟨some r, fun r' => ⟨fun e => ⟨n, by rw [hr]; exact e⟩, fun ⟨k, hk⟩ => ?_⟩⟩
      have a := xrun_ge V F G (Nat.le_max_left n k) hr
      have b := xrun_ge V F G (Nat.le_max_right n k) hk
      exact a.symm.trans b
    · exact ⟨none, fun r => ⟨fun e => (by cases e), fun ⟨k, hk⟩ => absurd ⟨r, k, hk⟩ hx⟩⟩
  obtain ⟨w, hw⟩ := Classical.axiomOfChoice h0
  refine ⟨fun M f h => w (M, f, h), fun M f h r hr => (hw (M, f, h) r).mp hr, fun M f h => ?_⟩
  have key : ∀ r, w (M, f, h) = some r ↔ xbody V F G (fun M f h => w (M, f, h)) M f h = some r := by
    intro r
    constructor
    · intro hr
      obtain ⟨n, hn⟩ := (hw (M, f, h) r).mp hr
      cases n with
      | zero => cases hn
      | succ n =>
        obtain ⟨P, p1, p2⟩ := fin_body V F G M f h (xrun V F G n) r hn
        exact p2 _ (fun p hp => (hw (p.1, p.2.1, p.2.2.1) p.2.2.2).mpr ⟨n, p1 p hp⟩)
    · intro hr
      obtain ⟨P, p1, p2⟩ := fin_body V F G M f h (fun M f h => w (M, f, h)) r hr
      have : ∃ N, ∀ p ∈ P, xrun V F G N p.1 p.2.1 p.2.2.1 = some p.2.2.2 := by
        clear p2
        induction P with
        | nil => exact ⟨0, by simp⟩
        | cons p t ih =>
          obtain ⟨N, hN⟩ := ih (fun q hq => p1 q (List.mem_cons_of_mem _ hq))
          obtain ⟨k, hk⟩ := (hw (p.1, p.2.1, p.2.2.1) p.2.2.2).mp (p1 p (List.mem_cons_self ..))
          refine ⟨max N k, fun q hq => ?_⟩
          rcases List.mem_cons.mp hq with rfl | hq
          · exact xrun_ge V F G (Nat.le_max_right N k) hk
          · exact xrun_ge V F G (Nat.le_max_left N k) (hN q hq)
      obtain ⟨N, hN⟩ := this
      exact (hw (M, f, h) r).mpr ⟨N + 1, p2 (xrun V F G N) hN⟩
  show w (M, f, h) = _
  cases hz : w (M, f, h) with
  | some r => exact ((key r).mp hz).symm
  | none =>
    cases hy : xbody V F G (fun M f h => w (M, f, h)) M f h with
    | none => rfl
    | some r => rw [(key r).mpr hy] at hz; cases hz
