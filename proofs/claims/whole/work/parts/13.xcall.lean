/-! calls from inside the walk, and what is thrown -/
section XC
variable {p : Program} {l : Launch} {e : Env} {R : Room} {s : State} {m : MethodId} {args : Array Value} {below : List Frame} {meth : Method} {c : Code} {T : State} {locs : List Loc} {cells slots : Nat}
theorem x_go_cold {E : CtlPost} {d : Bool} {acts : List Action} {u : State} {f : JFrame} {a : Addr} {Q : Handler → Pre} {x : ExceptionTableEntry} {t : List ExceptionTableEntry} {k : ClassId} {cell : Cell} {vm' : Vm} (hx : covers x f.pc = true) (h0 : x.catchType ≠ 0)
    (hg : (Jvm.resolveClass f.method.cls x.catchType).Gives e.toSetting u.vm (.ok k) vm') (hsz : vm'.classes.size ≤ u.vm.classes.size) (hcell : u.heap[a]? = some cell) (hobj : ∀ q, cell.vm ≠ .statics q)
    (hk : ∃ q, vm'.classes[cell.cls]? = some q) (hc : ∃ q, vm'.classes[k]? = some q) :
    wp (findHandler.go f a (x :: t)) Q E e d acts u ↔
      if vm'.assignable cell.cls k = true then Q (.found x.handlerPc) d acts (u.setVm vm') else wp (findHandler.go f a t) Q E e d acts (u.setVm vm') := by
  simp only [covers] at hx
  obtain ⟨ha, ht⟩ := hg.op (op := VmOp.resolveClass f.method.cls x.catchType) rfl
  cases hfit : vm'.assignable cell.cls k <;>
    simp [findHandler.go, hx, h0, ha, ht, hsz, hcell, hobj, hk, hc, hfit, VmOp.dirties, VmOp.acts]
def xFinds (e : Env) (u : State) (f : JFrame) (a : Addr) (pc : Nat) (vm' : Vm) : Prop :=
  ∀ (Q : Handler → Pre) (E : CtlPost) (d : Bool) (acts : List Action), wp (findHandler f a) Q E e d acts u ↔ Q (.found pc) d acts (u.setVm vm')
theorem x_catch_step {u : State} {a : Addr} {f : JFrame} {r : List Frame} {pc : Nat} {vm' : Vm} (hfind : xFinds e u f a pc vm') :
    (stepThrowing e u a (.java f :: r)).1 = (u.setVm vm').setFrames (.java { f with pc := pc, stack := [.ref a] } :: r) := by
  simp only [stepThrowing, searchFrame, vmDo]
  generalize hr : Sem.go _ e false [] u = res
  obtain ⟨as, rfl, ha⟩ := Sem.eq_ok_of hr (a := Handler.found pc) (s' := u.setVm vm') (acts' := []) (by simp [hfind _ _ _ _])
  rfl
theorem x_caught (X : Stand p l e R s m args below meth c T locs cells slots) {a : Addr} {g : JFrame} (hg : g.method = m) {pc : Nat} {vm' : Vm} (hfind : xFinds e ((T.setTop g).pushFrame (.throwing a)) g a pc vm') {target : State}
    (hrest : Steps p.tables e below ((T.setVm vm').setTop { g with pc := pc, stack := [.ref a] }) target) : Steps p.tables e below ((T.setTop g).pushFrame (.throwing a)) target := by
  have h : At T g.method c below := by rw [hg]; exact X.here
  obtain ⟨hgo, hw⟩ := h.throwing a
  refine Steps.head hgo hw ?_
  rw [stepThread_throwing (frames_entered h.top _), x_catch_step hfind]
  obtain ⟨g₀, hg0⟩ := Option.isSome_iff_exists.mp h.top
  obtain ⟨r, hr⟩ := State.topJava?_eq_some.mp hg0
  have e1 : ((T.setTop g).pushFrame (.throwing a)).setVm vm' = ((T.setVm vm').setTop g).pushFrame (.throwing a) := rfl
  have hr' : (T.setVm vm').frames = .java g₀ :: r := hr
  rw [e1, State.pushFrame, State.setFrames_setFrames, State.setTop_of_frames _ hr', State.setFrames_setFrames]
  rw [State.setTop_of_frames _ hr'] at hrest
  rw [hr]
  exact hrest
/-- the search through the table, entry by entry; each names a kind that links -/
theorem x_find {k0 : ClassId} {own : String} (hown : s.vm.findClass own = some m.cls) {f : JFrame} (hf : f.method = m) {a : Addr} {cell : Cell} (hadm : l.admits e) (hobj : ∀ q, cell.vm ≠ .statics q) (hk0 : cell.cls = k0) (hkc : ∃ q, s.vm.classes[k0]? = some q)
    {K : Nat → Option ClassId} {kx : Nat} (hkx : K kx = some k0) (hasg : ∀ (k : Nat) (q : ClassId), K k = some q → (s.vm.assignable k0 q = true ↔ k = kx)) :
    ∀ (t : List ExceptionTableEntry) (hs : List (Nat × Nat × Nat × Nat × Nat)), t.map (fun x => (x.startPc, x.endPc, x.handlerPc, x.catchType)) = hs.map (fun y => (y.1, y.2.1, y.2.2.1, y.2.2.2.1)) →
      (∀ y ∈ hs, y.2.2.2.1 ≠ 0 ∧ ∃ (nm : String) (q : ClassId), (∀ (a' : Array Value) (U : State), s.WarmedH U.vm → (Cond.classLink own y.2.2.2.1 nm).before a' U = true) ∧ s.vm.findClass nm = some q ∧ K y.2.2.2.2 = some q) →
      ∀ (u : State), s.WarmedH u.vm → u.heap[a]? = some cell → ∀ hp : Nat, xhd hs f.pc kx = some hp → ∃ vm' : Vm, s.WarmedH vm' ∧
        ∀ (Q : Handler → Pre) (E : CtlPost) (d : Bool) (acts : List Action), wp (findHandler.go f a t) Q E e d acts u ↔ Q (.found hp) d acts (u.setVm vm')
  | [], [], _, _, u, _, _, hp, h => by simp [xhd] at h
  | [], y :: ys, h, _, _, _, _, _, _ => by simp at h
  | x :: xs, [], h, _, _, _, _, _, _ => by simp at h
  | x :: xs, y :: ys, hmap, hall, u, hW, hcell, hp, hh => by
    obtain ⟨y1, y2, y3, y4, y5⟩ := y
    simp only [List.map_cons, List.cons.injEq, Prod.mk.injEq] at hmap
    obtain ⟨⟨m1, m2, m3, m4⟩, hmap⟩ := hmap
    have hall' : ∀ y ∈ ys, y.2.2.2.1 ≠ 0 ∧ ∃ (nm : String) (q : ClassId), (∀ (a' : Array Value) (U : State), s.WarmedH U.vm → (Cond.classLink own y.2.2.2.1 nm).before a' U = true) ∧ s.vm.findClass nm = some q ∧ K y.2.2.2.2 = some q := fun y hy => hall y (List.mem_cons_of_mem _ hy)
    obtain ⟨z0, nm, q, hlk, hfq, hKq⟩ := hall _ List.mem_cons_self
    dsimp only at z0 hlk hKq
    by_cases hcov : covers x f.pc = true
    · have hpl : e.platform.magicAccessors = ({} : Platform).magicAccessors := by rw [hadm.platform]
      have hl0 : (Cond.classLink own y4 nm).before #[] s = true := hlk #[] s (State.WarmedH.refl s)
      obtain ⟨q', hq', hcl⟩ := Cond.classLink_spec hown hl0 e.platform hpl
      cases hfq.symm.trans hq'
      obtain ⟨hg₁, hwarm₁, hready₁⟩ := State.classEntry (e := e) hW hcl
      generalize u.vm.noted m.cls y4 (.cls q) = vm₁ at hg₁ hwarm₁ hready₁
      obtain ⟨kk, hkk⟩ := hkc
      obtain ⟨kk', hkk', -⟩ := hwarm₁.alike.2.2 _ _ hkk
      obtain ⟨kq, hkq⟩ := Vm.classAt_of_findClass hfq
      obtain ⟨kq', hkq', -⟩ := hwarm₁.alike.2.2 _ _ hkq
      have hasg1 : vm₁.assignable k0 q = s.vm.assignable k0 q := hwarm₁.alike.assignable k0 q
      have hsz : vm₁.classes.size ≤ u.vm.classes.size := by rw [hwarm₁.2.1, hW.2.1]; exact Nat.le_refl _
      have step : ∀ (Q : Handler → Pre) (E : CtlPost) (d : Bool) (acts : List Action), wp (findHandler.go f a (x :: xs)) Q E e d acts u ↔ if vm₁.assignable cell.cls q = true then Q (.found x.handlerPc) d acts (u.setVm vm₁) else wp (findHandler.go f a xs) Q E e d acts (u.setVm vm₁) := by
        intro Q E d acts
        exact x_go_cold hcov (by rw [m4]; exact z0) (by rw [hf, m4]; exact hg₁) hsz hcell hobj ⟨kk', by rw [hk0]; exact hkk'⟩ ⟨kq', hkq'⟩
      rw [hk0, hasg1] at step
      have hcv : (Nat.ble y1 f.pc && Nat.blt f.pc y2) = true := by
        simp only [covers, Bool.and_eq_true, decide_eq_true_eq] at hcov
        rw [m1, m2] at hcov
        simp only [Bool.and_eq_true, Nat.ble_eq, Nat.blt_eq]
        exact hcov
      by_cases hkk5 : y5 = kx
      · have h1 := (hasg y5 q hKq).mpr hkk5
        simp only [xhd, hcv, Bool.true_and, hkk5, Nat.beq_refl, cond_true, Option.some.injEq] at hh
        refine ⟨vm₁, hwarm₁, fun Q E d acts => ?_⟩
        rw [step, if_pos h1, m3, hh]
      · have h1 : ¬ s.vm.assignable k0 q = true := fun z => hkk5 ((hasg y5 q hKq).mp z)
        have hb5 : Nat.beq y5 kx = false := by
          cases hz : Nat.beq y5 kx with
          | false => rfl
          | true => exact absurd (Nat.eq_of_beq_eq_true hz) hkk5
        simp only [xhd, hcv, hb5, Bool.true_and, cond_false] at hh
        obtain ⟨vm', w1, w2⟩ := x_find hown hf hadm hobj hk0 ⟨kk, hkk⟩ hkx hasg xs ys hmap hall' (u.setVm vm₁) hwarm₁ hcell hp hh
        refine ⟨vm', w1, fun Q E d acts => ?_⟩
        rw [step, if_neg h1, w2]
        rfl
    · have hcov' : covers x f.pc = false := by simpa using hcov
      have hcv : (Nat.ble y1 f.pc && Nat.blt f.pc y2) = false := by
        cases hz : (Nat.ble y1 f.pc && Nat.blt f.pc y2) with
        | false => rfl
        | true =>
          exfalso
          apply hcov
          simp only [Bool.and_eq_true, Nat.ble_eq, Nat.blt_eq] at hz
          simp only [covers, Bool.and_eq_true, decide_eq_true_eq, m1, m2]
          exact hz
      simp only [xhd, hcv, Bool.false_and, cond_false] at hh
      obtain ⟨vm', w1, w2⟩ := x_find hown hf hadm hobj hk0 hkc hkx hasg xs ys hmap hall' u hW hcell hp hh
      exact ⟨vm', w1, fun Q E d acts => (W.findHandler_go_skip hcov').trans (w2 Q E d acts)⟩
end XC
