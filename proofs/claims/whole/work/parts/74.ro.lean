/-! what is only read stays as it is -/
def xR0 (h h' : xH) : Prop := (∀ q e, h.1 q = some e → xro e → q < h.2.1 → h'.1 q = some e) ∧ h.2.1 ≤ h'.2.1
theorem xR0_refl (h : xH) : xR0 h h := ⟨fun _ _ a _ _ => a, Nat.le_refl _⟩
theorem xR0_trans {a b c : xH} (h1 : xR0 a b) (h2 : xR0 b c) : xR0 a c := ⟨fun q e x y z => h2.1 q e (h1.1 q e x y z) y (Nat.lt_of_lt_of_le z h1.2), Nat.le_trans h1.2 h2.2⟩
theorem xR0_set {h : xH} {o : Nat} {e0 : xE} (he : h.1 o = some e0) (hr : ¬ xro e0) (e : xE) : xR0 h (xset h o e) := ⟨fun q e' x y z => by
  rw [j_gne _ _ (fun w => by subst w; rw [he] at x; cases x; exact hr y)]; exact x, Nat.le_refl _⟩
theorem xR0_new (h : xH) (e : xE) (n : Nat) : xR0 h (xnew h e n) := ⟨fun q e' x y z => by
  show (if q = h.2.1 then some e else h.1 q) = _
  rw [if_neg (by omega)]; exact x, Nat.le_succ _⟩
theorem xR0_grid (h : xH) (a b n k : Nat) : xR0 h (xgrid h a b n k) := ⟨fun q e' x y z => by
  show (if q = h.2.1 then _ else if h.2.1 < q ∧ q ≤ h.2.1 + n then _ else h.1 q) = _
  rw [if_neg (by omega), if_neg (by omega)]; exact x, by show h.2.1 ≤ h.2.1 + 1 + n; omega⟩
def xkp (h : xH) (k : xWt → Option xR) : Prop := ∀ ih : xWt, (∀ M f h' r, ih M f h' = some r → xR0 h' r.2) → ∀ r, k ih = some r → xR0 h r.2
section KP
variable {h : xH}
theorem kp_ih (M : xM) (f : xF) : xkp h (fun ih => ih M f h) := fun _ hm r hr => hm _ _ _ r hr
theorem kp_to {h' : xH} (M : xM) (f : xF) (hh : xR0 h h') : xkp h (fun ih => ih M f h') := fun _ hm r hr => xR0_trans hh (hm _ _ _ r hr)
theorem kp_ret (o : xO) {h' : xH} (hh : xR0 h h') : xkp h (fun _ => some (o, h')) := fun _ _ r hr => by cases hr; exact hh
theorem kp_none : xkp h (fun _ => none) := fun _ _ r hr => by cases hr
theorem kp_ite {c : Prop} {i : Decidable c} {A B : xWt → Option xR} (a : xkp h A) (b : xkp h B) : xkp h (fun ih => @ite _ c i (A ih) (B ih)) := by
  by_cases hc : c
  · simp only [hc, if_true]; exact a
  · simp only [hc, if_false]; exact b
theorem kp_if {c : ClassFile.Cond} {x y : Int32} {A B : xWt → Option xR} (a : xkp h A) (b : xkp h B) : xkp h (fun ih => xif c x y (A ih) (B ih)) := by
  cases c
  · exact kp_ite a b
  · exact kp_ite b a
  · exact kp_ite a b
  · exact kp_ite a b
  · exact kp_ite a b
  · exact kp_ite a b
theorem kp_I1 {st : List Value} {k : xWt → Int32 → List Value → Option xR} (b : ∀ x t, xkp h (fun ih => k ih x t)) : xkp h (fun ih => xI1 st (k ih)) := fun ih hm r hr => by obtain ⟨x, t, -, hk⟩ := xI1_s hr; exact b x t ih hm r hk
theorem kp_I2 {st : List Value} {k : xWt → Int32 → Int32 → List Value → Option xR} (b : ∀ x y t, xkp h (fun ih => k ih x y t)) : xkp h (fun ih => xI2 st (k ih)) := fun ih hm r hr => by obtain ⟨x, y, t, -, hk⟩ := xI2_s hr; exact b x y t ih hm r hk
theorem kp_L1 {st : List Value} {k : xWt → Int64 → List Value → Option xR} (b : ∀ x t, xkp h (fun ih => k ih x t)) : xkp h (fun ih => xL1 st (k ih)) := fun ih hm r hr => by obtain ⟨x, t, -, hk⟩ := xL1_s hr; exact b x t ih hm r hk
theorem kp_L2 {st : List Value} {k : xWt → Int64 → Int64 → List Value → Option xR} (b : ∀ x y t, xkp h (fun ih => k ih x y t)) : xkp h (fun ih => xL2 st (k ih)) := fun ih hm r hr => by obtain ⟨x, y, t, -, hk⟩ := xL2_s hr; exact b x y t ih hm r hk
theorem kp_LI {st : List Value} {k : xWt → Int64 → Int32 → List Value → Option xR} (b : ∀ x y t, xkp h (fun ih => k ih x y t)) : xkp h (fun ih => xLI st (k ih)) := fun ih hm r hr => by obtain ⟨x, y, t, -, hk⟩ := xLI_s hr; exact b x y t ih hm r hk
theorem kp_A1 {st : List Value} {k : xWt → Nat → List Value → Option xR} (b : ∀ x t, xkp h (fun ih => k ih x t)) : xkp h (fun ih => xA1 st (k ih)) := fun ih hm r hr => by obtain ⟨x, t, -, hk⟩ := xA1_s hr; exact b x t ih hm r hk
theorem kp_AI {st : List Value} {k : xWt → Nat → Int32 → List Value → Option xR} (b : ∀ x y t, xkp h (fun ih => k ih x y t)) : xkp h (fun ih => xAI st (k ih)) := fun ih hm r hr => by obtain ⟨x, y, t, -, hk⟩ := xAI_s hr; exact b x y t ih hm r hk
theorem kp_AII {st : List Value} {k : xWt → Nat → Int32 → Int32 → List Value → Option xR} (b : ∀ x y z t, xkp h (fun ih => k ih x y z t)) : xkp h (fun ih => xAII st (k ih)) := fun ih hm r hr => by obtain ⟨x, y, z, t, -, hk⟩ := xAII_s hr; exact b x y z t ih hm r hk
theorem kp_AIL {st : List Value} {k : xWt → Nat → Int32 → Int64 → List Value → Option xR} (b : ∀ x y z t, xkp h (fun ih => k ih x y z t)) : xkp h (fun ih => xAIL st (k ih)) := fun ih hm r hr => by obtain ⟨x, y, z, t, -, hk⟩ := xAIL_s hr; exact b x y z t ih hm r hk
theorem kp_AIA {st : List Value} {k : xWt → Nat → Int32 → Nat → List Value → Option xR} (b : ∀ x y z t, xkp h (fun ih => k ih x y z t)) : xkp h (fun ih => xAIA st (k ih)) := fun ih hm r hr => by obtain ⟨x, y, z, t, -, hk⟩ := xAIA_s hr; exact b x y z t ih hm r hk
theorem kp_AV {st : List Value} {k : xWt → Nat → Value → List Value → Option xR} (b : ∀ x y t, xkp h (fun ih => k ih x y t)) : xkp h (fun ih => xAV st (k ih)) := fun ih hm r hr => by obtain ⟨x, y, t, -, hk⟩ := xAV_s hr; exact b x y t ih hm r hk
theorem kp_copy {st : List Value} {k : xWt → Nat → Int32 → Nat → Int32 → Int32 → List Value → Option xR} (b : ∀ x y z u v t, xkp h (fun ih => k ih x y z u v t)) : xkp h (fun ih => xcopy st (k ih)) := fun ih hm r hr => by obtain ⟨x, y, z, u, v, t, -, hk⟩ := xcopy_s hr; exact b x y z u v t ih hm r hk
theorem kp_vI {o : Option Value} {k : xWt → Int32 → Option xR} (b : ∀ x, xkp h (fun ih => k ih x)) : xkp h (fun ih => xvI o (k ih)) := fun ih hm r hr => by obtain ⟨x, -, hk⟩ := xvI_s hr; exact b x ih hm r hk
theorem kp_vL {o : Option Value} {k : xWt → Int64 → Option xR} (b : ∀ x, xkp h (fun ih => k ih x)) : xkp h (fun ih => xvL o (k ih)) := fun ih hm r hr => by obtain ⟨x, -, hk⟩ := xvL_s hr; exact b x ih hm r hk
theorem kp_vA {o : Option Value} {k : xWt → Nat → Option xR} (b : ∀ x, xkp h (fun ih => k ih x)) : xkp h (fun ih => xvA o (k ih)) := fun ih hm r hr => by obtain ⟨x, -, hk⟩ := xvA_s hr; exact b x ih hm r hk
theorem kp_vN {o : Value} {k : xWt → Int32 → Option xR} (b : ∀ x, xkp h (fun ih => k ih x)) : xkp h (fun ih => xvN o (k ih)) := fun ih hm r hr => by obtain ⟨x, -, hk⟩ := xvN_s hr; exact b x ih hm r hk
theorem kp_vK {o : Value} {k : xWt → Nat → Option xR} (b : ∀ x, xkp h (fun ih => k ih x)) : xkp h (fun ih => xvK o (k ih)) := fun ih hm r hr => by obtain ⟨x, -, hk⟩ := xvK_s hr; exact b x ih hm r hk
theorem kp_S {α : Type} {o : Option α} {k : xWt → α → Option xR} (b : ∀ x, xkp h (fun ih => k ih x)) : xkp h (fun ih => xS o (k ih)) := fun ih hm r hr => by obtain ⟨x, -, hk⟩ := xS_s hr; exact b x ih hm r hk
theorem kp_B {o : Bool} {k : xWt → Option xR} (b : o = true → xkp h k) : xkp h (fun ih => xB o (k ih)) := fun ih hm r hr => by obtain ⟨e, hk⟩ := xB_s hr; exact b e ih hm r hk
theorem kp_N {c : Prop} {i : Decidable c} {k : xWt → Option xR} (b : xkp h k) : xkp h (fun ih => @xN c i (k ih)) := fun ih hm r hr => by obtain ⟨-, hk⟩ := xN_s hr; exact b ih hm r hk
theorem kp_cI {o : Option xE} {k : xWt → Nat → Nat → (Nat → Int32) → Option xR} (b : ∀ t n g, o = some (.inl (t, n, .inl g)) → xkp h (fun ih => k ih t n g)) : xkp h (fun ih => xcI o (k ih)) := fun ih hm r hr => by obtain ⟨x, y, z, e, hk⟩ := xcI_s hr; exact b x y z e ih hm r hk
theorem kp_cL {o : Option xE} {k : xWt → Nat → Nat → (Nat → Int64) → Option xR} (b : ∀ t n g, o = some (.inl (t, n, .inr (.inl g))) → xkp h (fun ih => k ih t n g)) : xkp h (fun ih => xcL o (k ih)) := fun ih hm r hr => by obtain ⟨x, y, z, e, hk⟩ := xcL_s hr; exact b x y z e ih hm r hk
theorem kp_cR {o : Option xE} {k : xWt → Nat → Nat → (Nat → Option Nat) → Option xR} (b : ∀ t n g, o = some (.inl (t, n, .inr (.inr (.inr (.inr g))))) → xkp h (fun ih => k ih t n g)) : xkp h (fun ih => xcR o (k ih)) := fun ih hm r hr => by obtain ⟨x, y, z, e, hk⟩ := xcR_s hr; exact b x y z e ih hm r hk
theorem kp_cA {o : Option xE} {k : xWt → Nat → Option xR} (b : ∀ x, xkp h (fun ih => k ih x)) : xkp h (fun ih => xcA o (k ih)) := fun ih hm r hr => by obtain ⟨x, y, z, e, hk⟩ := xcA_s hr; exact b y ih hm r hk
theorem kp_cO {o : Option xE} {k : xWt → Nat → List Value → Option xR} (b : ∀ c fs, o = some (.inr (c, fs)) → xkp h (fun ih => k ih c fs)) : xkp h (fun ih => xcO o (k ih)) := fun ih hm r hr => by obtain ⟨x, y, e, hk⟩ := xcO_s hr; exact b x y e ih hm r hk
theorem kp_back {M : xM} {pc nx : Nat} {l : List (Option Value)} {rest : List Value} (r0 : xR) : xkp r0.2 (fun ih => xback ih M pc nx l rest r0) := by
  obtain ⟨o, h0⟩ := r0
  rcases o with o | ⟨c, a⟩
  · cases o with
    | none => exact kp_ih _ _
    | some v => exact kp_ih _ _
  · unfold xback
    cases xhs M with
    | nil => exact kp_ret _ (xR0_refl _)
    | cons q t => exact kp_S (fun p => kp_ih _ _)
theorem kp_call {G : Nat → xM} {M : xM} {pc nx : Nat} {l : List (Option Value)} {z : Nat} {as rest : List Value} : xkp h (fun ih => xcall G ih M pc nx l z as rest h) := fun ih hm r hr => by
  obtain ⟨-, hr⟩ := xB_s hr
  obtain ⟨r0, h0, hr⟩ := xS_s hr
  exact xR0_trans (hm _ _ _ _ h0) (kp_back r0 ih hm r hr)
end KP
