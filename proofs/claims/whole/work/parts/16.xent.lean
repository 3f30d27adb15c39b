/-! entering a method; copying; throwing -/
theorem xkind_fit {k : Nat} {ty : FieldType} {w : Value} (h1 : xkind k ty = true) (h2 : xfit k w = true) : narrow ty w = w ∧ fits ty w = true := by
  unfold xkind at h1
  split at h1
  · cases w <;> first | exact ⟨rfl, rfl⟩ | exact absurd h2 (by simp [xfit])
  · cases w with
    | int x => rcases of_decide_eq_true h2 with rfl | rfl <;> exact ⟨rfl, rfl⟩
    | _ => exact absurd h2 (by simp [xfit])
  · cases w <;> first | exact ⟨rfl, rfl⟩ | exact absurd h2 (by simp [xfit])
  · cases w <;> first | exact ⟨rfl, rfl⟩ | exact absurd h2 (by simp [xfit])
  · cases h1
section XEN
variable {l : Launch} {cl : List vw_C} {WL : List Cond} {host : String}
variable {p : Program} {e : Env} {R : Room} {s : State} {m : MethodId} {args : Array Value} {below : List Frame} {meth : Method} {c : Code} {T : State} {locs : List Loc} {cells slots : Nat}
theorem xpar_len {Z : xM} {b : Nat} {sig : ClassFile.MethodDescriptor} (h : xpar Z b = true) (hs : parseMethodDescriptor (xnm Z).desc = some sig) : b = sig.parameters.length := by
  have h1 := of_decide_eq_true h
  rw [hs] at h1
  exact (Option.some.inj h1).symm
theorem x_entS {own : String} {bytes : ByteArray} (X : Stand p l e R s m args below meth c T locs cells slots) (hx : p.tables.exec = Jvm.exec) (hb : c.code = bytes) (hown : s.vm.findClass own = some m.cls) (hw : xWd WL s) {Z : xM} (hgz : ∃ hs, xmok WL cl Z hs = true) {p0 k b pc : Nat} (hlink : xlink WL host own p0 k (xnm Z) = true)
    (hst : (Cond.static (xnm Z)) ∈ WL) (hpar : xpar Z b = true) {as rest : List Value} (hlen : as.length = b) {mk : MethodId} (hmk : s.methodNamed? (xnm Z) = some mk) {ls : Array Slot} (hd : decode bytes pc = .ok (.invokestatic k, 3)) :
    ∃ vm₁, s.WarmedH vm₁ ∧ Stand p l e R s m args below meth c (T.setVm vm₁) locs cells slots ∧
      ∀ target, (∀ acts, Steps p.tables e below (doInvoke e ((T.setVm vm₁).setTop (F0 m pc ls rest)) acts mk as.toArray).1 target) → Steps p.tables e below (T.setTop (F0 m pc ls (as.reverse ++ rest))) target := by
  obtain ⟨hs, hokZ⟩ := hgz
  obtain ⟨mk', methZ, cZ, q1, q2, q3, q4, q5, q6, q7, q8, q9, ⟨kZ, qk, qi⟩, q10, q11⟩ := x_mfacts (s := s) hokZ hw
  cases hmk.symm.trans q1
  have hstatic : methZ.isStatic = true := Cond.static_spec q1 q2 (hw _ hst args s (State.WarmedH.refl s))
  have hl' : as.length = methZ.sig.parameters.length := hlen.trans (xpar_len hpar q9)
  simp only [xlink, Bool.or_eq_true] at hlink
  rcases hlink with hlk | hlk
  · obtain ⟨vm', X', st⟩ := X.invokestatic hx hown (hw _ (xin_mem hlk) args s (State.WarmedH.refl s)) q1 q2 hstatic qk qi q11 (g := F0 m pc ls (as.reverse ++ rest)) rfl (argsL := as) (rest := rest) hl' rfl (by rw [hb]; exact hd)
    exact ⟨vm', X'.warmed, X', st⟩
  · obtain ⟨vm', X', st⟩ := X.invokestaticNest hx hown (hw _ (xin_mem hlk) args s (State.WarmedH.refl s)) q1 q2 hstatic qk qi q11 (g := F0 m pc ls (as.reverse ++ rest)) rfl (argsL := as) (rest := rest) hl' rfl (by rw [hb]; exact hd)
    exact ⟨vm', X'.warmed, X', st⟩
theorem x_entV {own : String} {bytes : ByteArray} (X : Stand p l e R s m args below meth c T locs cells slots) (hx : p.tables.exec = Jvm.exec) (hb : c.code = bytes) (hown : s.vm.findClass own = some m.cls) (hw : xWd WL s) {Z : xM} (hgz : ∃ hs, xmok WL cl Z hs = true) {p0 k b pc : Nat} (hlink : xlink WL host own p0 k (xnm Z) = true)
    (hin : (Cond.instanceMethod (xnm Z)) ∈ WL) (hsel : (Cond.selects (xnm Z).cls (xnm Z) (xnm Z)) ∈ WL) (hpar : xpar Z b = true) {o : Nat} {as rest : List Value} (hlen : as.length = b) {mk : MethodId} (hmk : s.methodNamed? (xnm Z) = some mk) {ls : Array Slot}
    {cellB : Cell} (hcell : T.heap[o]? = some cellB) (hobj : cellB.vm.isStatics = false) (hcls : s.vm.findClass (xnm Z).cls = some cellB.cls) (hd : decode bytes pc = .ok (.invokevirtual k, 3)) :
    ∃ vm₁, s.WarmedH vm₁ ∧ Stand p l e R s m args below meth c (T.setVm vm₁) locs cells slots ∧
      ∀ target, (∀ acts, Steps p.tables e below (doInvoke e ((T.setVm vm₁).setTop (F0 m pc ls rest)) acts mk (Value.ref o :: as).toArray).1 target) → Steps p.tables e below (T.setTop (F0 m pc ls ((Value.ref o :: as).reverse ++ rest))) target := by
  obtain ⟨hs, hokZ⟩ := hgz
  obtain ⟨mk', methZ, cZ, q1, q2, q3, q4, q5, q6, q7, q8, q9, ⟨kZ, qk, qi⟩, q10, q11⟩ := x_mfacts (s := s) hokZ hw
  cases hmk.symm.trans q1
  obtain ⟨mk2, meth2, i1, i2, i3, i4⟩ := Cond.instanceMethod_spec (hw _ hin args s (State.WarmedH.refl s))
  cases q1.symm.trans i1
  cases q2.symm.trans i2
  have hl' : as.length = methZ.sig.parameters.length := hlen.trans (xpar_len hpar q9)
  obtain ⟨c2, r2, m2, z1, z2, z3, z4, kP, hkP, hkPi⟩ := Cond.selects_spec (hw _ hsel args s (State.WarmedH.refl s))
  cases hcls.symm.trans z1
  cases (State.methodFound?_of_named q1 q11).symm.trans z2
  cases q1.symm.trans z3
  have hselP : selectMethod e.platform s.vm cellB.cls mk = .method mk := by rw [Launch.admits_selectMethod X.admits]; exact z4
  have hstk : (F0 m pc ls ((Value.ref o :: as).reverse ++ rest)).stack = as.reverse ++ .ref o :: rest := by show (Value.ref o :: as).reverse ++ rest = _; simp
  simp only [xlink, Bool.or_eq_true] at hlink
  rcases hlink with hlk | hlk
  · obtain ⟨vm', X', st⟩ := X.invokevirtual hx hown (hw _ (xin_mem hlk) args s (State.WarmedH.refl s)) q1 q2 i3 hkP hkPi q11 (a := o) (cell := cellB) hcell (fun z h => by rw [h] at hobj; cases hobj) hselP q2 i4 hkP hkPi (g := F0 m pc ls ((Value.ref o :: as).reverse ++ rest)) rfl (argsL := as) (rest := rest) hl' hstk (by rw [hb]; exact hd)
    exact ⟨vm', X'.warmed, X', st⟩
  · obtain ⟨vm', X', st⟩ := X.invokevirtualNest hx hown (hw _ (xin_mem hlk) args s (State.WarmedH.refl s)) q1 q2 i3 hkP hkPi q11 (a := o) (cell := cellB) hcell (fun z h => by rw [h] at hobj; cases hobj) hselP q2 i4 hkP hkPi (g := F0 m pc ls ((Value.ref o :: as).reverse ++ rest)) rfl (argsL := as) (rest := rest) hl' hstk (by rw [hb]; exact hd)
    exact ⟨vm', X'.warmed, X', st⟩
theorem x_entI {own : String} {bytes : ByteArray} (X : Stand p l e R s m args below meth c T locs cells slots) (hx : p.tables.exec = Jvm.exec) (hb : c.code = bytes) (hown : s.vm.findClass own = some m.cls) (hw : xWd WL s) {Z : xM} (hgz : ∃ hs, xmok WL cl Z hs = true) {p0 k b pc : Nat} (hlink : xlink WL host own p0 k (xnm Z) = true)
    (hin : (Cond.instanceMethod (xnm Z)) ∈ WL) (hname : (xnm Z).name = "<init>") (hhs : xhs Z = []) (hrt : xrt Z = none) (hpar : xpar Z b = true) {o : Nat} {as rest : List Value} (hlen : as.length = b) {mk : MethodId} (hmk : s.methodNamed? (xnm Z) = some mk) {ls : Array Slot} (hd : decode bytes pc = .ok (.invokespecial k, 3)) :
    ∃ vm₁, s.WarmedH vm₁ ∧ Stand p l e R s m args below meth c (T.setVm vm₁) locs cells slots ∧
      ∀ target, (∀ acts, Steps p.tables e below (doInvoke e ((T.setVm vm₁).setTop (F0 m pc ls rest)) acts mk (Value.ref o :: as).toArray).1 target) → Steps p.tables e below (T.setTop (F0 m pc ls ((Value.ref o :: as).reverse ++ rest))) target := by
  obtain ⟨hs, hokZ⟩ := hgz
  obtain ⟨mk', methZ, cZ, q1, q2, q3, q4, q5, q6, q7, q8, q9, ⟨kZ, qk, qi⟩, q10, q11⟩ := x_mfacts (s := s) hokZ hw
  cases hmk.symm.trans q1
  have hcode : (Cond.code (xnm Z) (xby Z) (xml Z) none) ∈ WL := by
    simp only [xmok, Bool.and_eq_true, hhs, hrt] at hokZ
    exact xin_mem hokZ.1.1.2
  have hpl : e.platform.magicAccessors = ({} : Platform).magicAccessors := by rw [X.admits.platform]
  have hstk : (F0 m pc ls ((Value.ref o :: as).reverse ++ rest)).stack = as.reverse ++ .ref o :: rest := by show (Value.ref o :: as).reverse ++ rest = _; simp
  have hl' : ∀ sig, parseMethodDescriptor (xnm Z).desc = some sig → as.length = sig.parameters.length := fun sig h => hlen.trans (xpar_len hpar h)
  simp only [xlink, Bool.or_eq_true] at hlink
  rcases hlink with hlk | hlk
  · obtain ⟨tm, methM, cM, kP, vm₁, hnamed, hmethM, hcodeM, -, hlocalsM, -, hkP, -, hW₁, hstep₁⟩ := Steps.initColdArgs (e := e) X.here hx X.warmed hpl hown hname q11 (hw _ (xin_mem hlk) args s (State.WarmedH.refl s)) (hw _ hin args s (State.WarmedH.refl s)) (hw _ hcode args s (State.WarmedH.refl s)) (f := F0 m pc ls ((Value.ref o :: as).reverse ++ rest)) rfl hl' hstk (by rw [hb]; exact hd)
    cases q1.symm.trans hnamed
    exact ⟨vm₁, hW₁, X.noted hW₁, hstep₁⟩
  · obtain ⟨tm, methM, cM, kP, vm₁, hnamed, hmethM, hcodeM, -, hlocalsM, -, hkP, -, hW₁, hstep₁⟩ := Steps.initColdArgsNest (e := e) X.here hx X.warmed hpl hown hname q11 (hw _ (xin_mem hlk) args s (State.WarmedH.refl s)) (hw _ hin args s (State.WarmedH.refl s)) (hw _ hcode args s (State.WarmedH.refl s)) (f := F0 m pc ls ((Value.ref o :: as).reverse ++ rest)) rfl hl' hstk (by rw [hb]; exact hd)
    cases q1.symm.trans hnamed
    exact ⟨vm₁, hW₁, X.noted hW₁, hstep₁⟩
end XEN
/-! an array of int arrays: the outer cell with its first i places filled; the heap on the way -/
def xgo (cA : ClassId) (n h0 i : Nat) : Cell := arrV cA n (fun j => va_rf (if j < i then some (h0 + 1 + j) else none))
abbrev xgi (comp : ClassId) (k : Nat) : Cell := arrV comp k (fun _ => Value.int 0)
def xgr (T : State) (cA comp : ClassId) (n k : Nat) (i : Nat) : State :=
  Nat.rec (T.pushCell (xgo cA n T.heap.size 0)) (fun i S => (S.pushCell (xgi comp k)).setCell T.heap.size (xgo cA n T.heap.size (i + 1))) i
theorem xgr_0 (T : State) (cA comp : ClassId) (n k : Nat) : xgr T cA comp n k 0 = T.pushCell (xgo cA n T.heap.size 0) := rfl
theorem xgo_zero (cA : ClassId) (n h0 : Nat) : ({ cls := cA, slots := Array.replicate n Value.null, vm := .none } : Cell) = xgo cA n h0 0 := by
  rw [arrV_new]
  unfold xgo
  congr 1
theorem xgo_next (cA : ClassId) (n h0 i : Nat) : (xgo cA n h0 i).setSlot i (.ref (h0 + 1 + i)) = xgo cA n h0 (i + 1) := by
  unfold xgo
  rw [arrV_store]
  congr 1
  funext j
  unfold updV
  by_cases hj : j = i
  · subst hj
    simp [va_rf]
  · by_cases h2 : j < i
    · simp [hj, h2, Nat.lt_succ_of_lt h2]
    · have h3 : ¬ j < i + 1 := by omega
      simp [hj, h2, h3]
theorem xgr_facts (T : State) (cA comp : ClassId) (n k : Nat) (i : Nat) : (xgr T cA comp n k i).heap.size = T.heap.size + 1 + i ∧ (xgr T cA comp n k i).heap[T.heap.size]? = some (xgo cA n T.heap.size i) ∧ (∀ q, q < T.heap.size → (xgr T cA comp n k i).heap[q]? = T.heap[q]?) ∧
    (∀ j, j < i → (xgr T cA comp n k i).heap[T.heap.size + 1 + j]? = some (xgi comp k)) ∧ (xgr T cA comp n k i).vm = T.vm ∧ (xgr T cA comp n k i).slotsUsed = T.slotsUsed + n + i * k := by
  induction i with
  | zero =>
    rw [xgr_0]
    exact ⟨by simp, by simp, fun q hq => State.heap_pushCell_of_lt _ _ hq, fun j hj => absurd hj (Nat.not_lt_zero _), rfl, by simp [xgo, arrV_size]⟩
  | succ i ih =>
    obtain ⟨a1, a2, a3, a4, a5, a6⟩ := ih
    have es : xgr T cA comp n k (i + 1) = ((xgr T cA comp n k i).pushCell (xgi comp k)).setCell T.heap.size (xgo cA n T.heap.size (i + 1)) := rfl
    rw [es]
    have low : ∀ q, q < T.heap.size + 1 + i → ((xgr T cA comp n k i).pushCell (xgi comp k)).heap[q]? = (xgr T cA comp n k i).heap[q]? := fun q hq => State.heap_pushCell_of_lt _ _ (by rw [a1]; exact hq)
    have off : ∀ q, q ≠ T.heap.size → (((xgr T cA comp n k i).pushCell (xgi comp k)).setCell T.heap.size (xgo cA n T.heap.size (i + 1))).heap[q]? = ((xgr T cA comp n k i).pushCell (xgi comp k)).heap[q]? := fun q hq => State.heap_setCell_other (Ne.symm hq)
    refine ⟨?_, State.heap_setCell_self ((low T.heap.size (by omega)).trans a2), fun q hq => ?_, fun j hj => ?_, ?_, ?_⟩
    · simp [State.setCell, a1]; omega
    · rw [off q (by omega), low q (by omega), a3 q hq]
    · rw [off _ (by omega)]
      by_cases h : j < i
      · rw [low _ (by omega), a4 j h]
      · rw [show T.heap.size + 1 + j = (xgr T cA comp n k i).heap.size by rw [a1]; omega]
        exact State.heap_pushCell_size _ _
    · simp [a5]
    · simp [a6, xgi, arrV_size, Nat.succ_mul]; omega
theorem xgr_top (T : State) (f : JFrame) (cA comp : ClassId) (n k : Nat) (i : Nat) : xgr (T.setTop f) cA comp n k i = (xgr T cA comp n k i).setTop f := by
  induction i with
  | zero => rfl
  | succ i ih =>
    show ((xgr (T.setTop f) cA comp n k i).pushCell (xgi comp k)).setCell T.heap.size (xgo cA n T.heap.size (i + 1)) = (((xgr T cA comp n k i).pushCell (xgi comp k)).setCell T.heap.size (xgo cA n T.heap.size (i + 1))).setTop f
    rw [ih, State.pushCell_setTop, State.setCell_setTop]
section XGW
variable {E : CtlPost} {e : Env} {d : Bool} {acts : List Action} {s : State}
theorem xg_row {comp cc : ClassId} {kc : Class} {k : Int32} (h1 : s.vm.classes[comp]? = some kc) (h2 : kc.kind = .array cc .int) (hk : ¬ k < 0) (l1 : ¬ k.toNatClampNeg > e.platform.arrayLengthLimit) (l2 : ¬ k.toNatClampNeg * componentBytes .int > e.platform.maxHeapBytes)
    (r1 : s.heap.size < e.platform.maxCells) (r2 : s.slotsUsed + k.toNatClampNeg ≤ e.platform.maxSlots) {Q : Addr → Pre} (hq : ∀ acts', Q s.heap.size d acts' (s.pushCell (xgi comp k.toNatClampNeg))) : wp (multianewarray.make comp [k]) Q E e d acts s := by
  rw [multianewarray.make]
  simp only [wp_bind', W.ite, hk, if_false, wp_pure', W.theClass, h1, h2, Option.some.injEq, exists_eq_left']
  refine W.newArray_of h1 h2 l1 l2 r1 r2 rfl (fun acts' => ?_)
  have := hq acts'
  rw [xgi, ← arrV_new] at this
  exact this
theorem xg_all {cA comp cc : ClassId} {kA kc : Class} {n k : Int32} (a1 : s.vm.classes[cA]? = some kA) (a2 : kA.kind = .array comp (.array .int)) (h1 : s.vm.classes[comp]? = some kc) (h2 : kc.kind = .array cc .int) (hn : ¬ n < 0) (hk : ¬ k < 0)
    (m1 : ¬ n.toNatClampNeg > e.platform.arrayLengthLimit) (m2 : ¬ n.toNatClampNeg * componentBytes (.array .int) > e.platform.maxHeapBytes) (l1 : ¬ k.toNatClampNeg > e.platform.arrayLengthLimit) (l2 : ¬ k.toNatClampNeg * componentBytes .int > e.platform.maxHeapBytes)
    (r1 : s.heap.size + (1 + n.toNatClampNeg) ≤ e.platform.maxCells) (r2 : s.slotsUsed + (n.toNatClampNeg + n.toNatClampNeg * k.toNatClampNeg) ≤ e.platform.maxSlots) {Q : Addr → Pre} (hq : ∀ d' acts', Q s.heap.size d' acts' (xgr s cA comp n.toNatClampNeg k.toNatClampNeg n.toNatClampNeg)) : wp (multianewarray.make cA [n, k]) Q E e d acts s := by
  have none0 : ([k].find? (· < 0)) = none := by simp [hk]
  rw [multianewarray.make]
  simp only [wp_bind', W.ite, hn, if_false, wp_pure', W.theClass, a1, a2, Option.some.injEq, exists_eq_left']
  refine W.newArray_of a1 a2 m1 m2 (by omega) (by have := Nat.zero_le (n.toNatClampNeg * k.toNatClampNeg); omega) rfl (fun acts1 => ?_)
  rw [xgo_zero cA n.toNatClampNeg s.heap.size]
  simp only [none0]
  rw [ite_self, wp_bind', Std.Legacy.Range.forIn_eq_forIn_range']
  have hsz : ([:n.toNatClampNeg] : Std.Legacy.Range).size = n.toNatClampNeg := by simp [Std.Legacy.Range.size]
  rw [hsz]
  show wp (forIn (List.range' 0 n.toNatClampNeg 1) PUnit.unit _) _ E e d acts1 _
  refine wp_forIn_inv (fun r u => r.length ≤ n.toNatClampNeg ∧ r = List.range' (n.toNatClampNeg - r.length) r.length ∧ u = xgr s cA comp n.toNatClampNeg k.toNatClampNeg (n.toNatClampNeg - r.length)) _ _ ⟨by simp, by simp, by simp [xgr_0]⟩ ?_ ?_
  · intro x r u d' acts' Q' hI hnext
    obtain ⟨i1, i2, i3⟩ := hI
    rw [List.length_cons] at i1 i2 i3
    rw [List.range'_succ] at i2
    obtain ⟨i4, i5⟩ := List.cons.inj i2
    have ei : n.toNatClampNeg - (r.length + 1) + 1 = n.toNatClampNeg - r.length := by omega
    rw [ei] at i5
    rw [← i4] at i3 ei
    obtain ⟨f1, f2, f3, f4, f5, f6⟩ := xgr_facts s cA comp n.toNatClampNeg k.toNatClampNeg x
    have hx : x < n.toNatClampNeg := by omega
    have hm : (x + 1) * k.toNatClampNeg ≤ n.toNatClampNeg * k.toNatClampNeg := Nat.mul_le_mul_right _ hx
    rw [Nat.succ_mul] at hm
    rw [i3]
    simp only [wp_bind']
    refine xg_row (by rw [f5]; exact h1) h2 hk l1 l2 (by rw [f1]; omega) (by rw [f6]; omega) (fun acts2 => ?_)
    simp only [wp_bind', W.writeLoc, wp_pure']
    have c0 : ((xgr s cA comp n.toNatClampNeg k.toNatClampNeg x).pushCell (xgi comp k.toNatClampNeg)).heap[s.heap.size]? = some (xgo cA n.toNatClampNeg s.heap.size x) := by
      have hlt : s.heap.size < (xgr s cA comp n.toNatClampNeg k.toNatClampNeg x).heap.size := by rw [f1]; omega
      rw [State.heap_pushCell_of_lt _ _ hlt]; exact f2
    refine ⟨xgo cA n.toNatClampNeg s.heap.size x, c0, (fun z => by cases z), (by unfold xgo; rw [arrV_size]; exact hx), ?_, hnext _ _ _ ⟨by omega, i5, ?_⟩⟩
    · show State.fitsSlot _ cA .none x _ = true
      simp [State.fitsSlot, State.slotType?, f5, a1, a2, fits]
    · rw [f1, xgo_next, ← ei]
      rfl
  · intro u d' acts' hI
    obtain ⟨-, -, i3⟩ := hI
    rw [i3]
    simp only [wp_pure']
    exact hq _ _
end XGW
section XCP
variable {p : Program} {l : Launch} {e : Env} {R : Room} {s : State} {m : MethodId} {args : Array Value} {below : List Frame} {meth : Method} {c : Code} {H : Heap} {locs : List Loc} {cells slots : Nat} {Q : State → Prop}
variable {cc : ByteArray} {pc : Nat} {ls : Array Slot} {rest : List Value} {D : va_G} {cl : List vw_C} {H0 : Heap} {h : xH}
theorem xclamp {z : Int32} (hz : ¬ z < 0) : z.toInt = (z.toNatClampNeg : Int) := by
  have hz0 : (0 : Int) ≤ z.toInt := by
    have := Int32.not_lt.mp hz
    simpa using Int32.le_iff_toInt_le.mp this
  show z.toInt = ((z.toInt.toNat : Nat) : Int)
  omega
theorem xw_copy (hx : p.tables.exec = Jvm.exec) (hb : c.code = cc) (hml : c.maxLocals = ls.size) {own : String} {index : Nat} (hown : s.vm.findClass own = some m.cls) (hlink : (Cond.methodLink own index arraycopyName).before args s = true) (hnat : (Cond.native arraycopyName).before args s = true) (hstat : (Cond.static arraycopyName).before args s = true) (hini : (Cond.initialized "java/lang/System").before args s = true)
    (hR : xHR D cl H0 s h H) (hl : ∀ q ∈ locs, H0.size ≤ q.base) {a0 a n0 n1 : Nat} {f g : Nat → Int32} (ha0 : h.1 a0 = some (.inl (0, n0, .inl f))) (ha1 : h.1 a = some (.inl (0, n1, .inl g))) {sp dp n : Int32} (h1 : ¬ sp < 0) (h2 : ¬ dp < 0) (h3 : ¬ n < 0) (h4 : sp.toNatClampNeg + n.toNatClampNeg ≤ n0) (h5 : dp.toNatClampNeg + n.toNatClampNeg ≤ n1)
    (hframes : 1 ≤ R.frames) (hlocals : (rest.map fun v => v.category).sum + (nativeFrameWords "java/lang/System" "arraycopy" 5 + 11) ≤ R.locals) (hdg : decode cc pc = .ok (.invokestatic index, 3))
    (kk : ∀ (H1 : Heap) (locs1 : List Loc), xHR D cl H0 s (xset h a (xA 0 n1 (xint (va_cpy f g sp.toNatClampNeg dp.toNatClampNeg n.toNatClampNeg)))) H1 → (∀ q ∈ locs1, H0.size ≤ q.base) → W p l e R s m args below meth c H1 locs1 cells slots Q (F0 m (pc + 3) ls rest)) :
    W p l e R s m args below meth c H locs cells slots Q (F0 m pc ls (.int n :: .int dp :: .ref a :: .int sp :: .ref a0 :: rest)) := by
  intro T hT X
  rcases (hR.2.2.2 a0 _ ha0).1 with ⟨z0, -⟩ | ⟨-, c0, e0, r0, w0⟩
  · exact absurd (show (0 : Nat) = 3 from z0) (by decide)
  rcases (hR.2.2.2 a _ ha1).1 with ⟨z0, -⟩ | ⟨-, c1, e1, r1, w1⟩
  · exact absurd (show (0 : Nat) = 3 from z0) (by decide)
  have e0 : H[a0]? = some (arrV c0 n0 (fun j => .int (f j))) := e0
  have e1 : H[a]? = some (arrV c1 n1 (fun j => .int (g j))) := e1
  obtain ⟨-, k0, hk0, cm0, hkk0⟩ := r0 n0 (fun j => .int (f j))
  obtain ⟨-, k1, hk1, cm1, hkk1⟩ := r1 n1 (fun j => .int (g j))
  obtain ⟨vm', X', step⟩ := X.arraycopy hx hown hlink hnat hstat hini (src := a0) (dst := a) (cs := arrV c0 n0 (fun j => .int (f j))) (cd := arrV c1 n1 (fun j => .int (g j))) (srcPos := sp) (destPos := dp) (n := n) (by rw [hT]; exact e0) (by rw [hT]; exact e1)
    (fun _ z => by cases z) (fun _ z => by cases z) (fun z => by cases z) (fun z => by cases z) hk0 hk1 hkk0 hkk1 (by rfl) h1 h2 h3
    (by rw [xclamp h1, xclamp h3, arrV_size]; omega) (by rw [xclamp h2, xclamp h3, arrV_size]; omega)
    (fun vm₁ _ i hi => by
      have q : (arrV c0 n0 (fun j => Value.int (f j))).slots.getD (sp.toNatClampNeg + i) .null = .int (f (sp.toNatClampNeg + i)) := by
        rw [Array.getD_eq_getD_getElem?, arrV_read _ _ (by omega)]
        rfl
      rw [q]
      exact ⟨rfl, trivial⟩)
    (g := F0 m pc ls (.int n :: .int dp :: .ref a :: .int sp :: .ref a0 :: rest)) rfl (by rw [hml]) (rest := rest) rfl (by rw [hb]; exact hdg) hframes (by show 2 * 0 + _ + _ ≤ _; omega)
  have eq1 : copied (arrV c0 n0 (fun j => .int (f j))) (arrV c1 n1 (fun j => .int (g j))) sp dp n = arrV c1 n1 (fun j => .int (va_cpy f g sp.toNatClampNeg dp.toNatClampNeg n.toNatClampNeg j)) := va_copied (fun z => .int z) c0 c1 f g h4
  rw [eq1] at X' step
  have hlt : a < T.heap.size := by rw [hT]; exact (Array.getElem?_eq_some_iff.mp e1).1
  have old := hR.old ha1 (xro3 (by decide))
  obtain ⟨t, t1, t2⟩ := kk ((T.setVm vm').setCell a (arrV c1 n1 (fun j => .int (va_cpy f g sp.toNatClampNeg dp.toNatClampNeg n.toNatClampNeg j)))).heap _
    (hR.set ha1 (xro3 (by decide)) (Or.inr ⟨show (0 : Nat) ≠ 3 by decide, c1, heapAt_setCell_self (s := T.setVm vm') _ hlt, r1, w1⟩) (by rw [size_setCell]; show T.heap.size = _; rw [hT]) (fun q hq => by rw [heapAt_setCell_ne _ (Ne.symm hq)]; show T.heap[q]? = _; rw [hT]))
    (fun q hq => by
      rcases List.mem_append.mp hq with z | z
      · exact hl q z
      · obtain ⟨y, -, hy⟩ := List.mem_map.mp z
        rw [← hy]
        exact old) _ rfl X'
  exact ⟨t, step t t1, t2⟩
/-- an array of arrays -/
theorem xw_grid (hx : p.tables.exec = Jvm.exec) (hb : c.code = cc) (hR : xHR D cl H0 s h H) (hl : ∀ q ∈ locs, H0.size ≤ q.base) {own : String} {idx : Nat} (hown : s.vm.findClass own = some m.cls) (hclink : (Cond.classLink own idx "[[I").before args s = true) (hover : (Cond.arrayOver (.array .int)).before args s = true) (harr : (Cond.arrayClass .int).before args s = true)
    {n k : Int32} (hn : ¬ n < 0) (hk : ¬ k < 0) (hn' : n.toNatClampNeg ≤ 1000) (hk' : k.toNatClampNeg ≤ 1000000) (hcells : cells + (1 + n.toNatClampNeg) ≤ R.cells) (hslots : slots + (n.toNatClampNeg + n.toNatClampNeg * k.toNatClampNeg) ≤ R.slots) (hd : decode cc pc = .ok (.multianewarray idx 2, 4))
    (kk : ∀ (H1 : Heap) (locs1 : List Loc), xHR D cl H0 s (xgrid h 4 0 n.toNatClampNeg k.toNatClampNeg) H1 → (∀ q ∈ locs1, H0.size ≤ q.base) → W p l e R s m args below meth c H1 locs1 (cells + (1 + n.toNatClampNeg)) (slots + (n.toNatClampNeg + n.toNatClampNeg * k.toNatClampNeg)) Q (F0 m (pc + 4) ls (.ref h.2.1 :: rest))) :
    W p l e R s m args below meth c H locs cells slots Q (F0 m pc ls (.int k :: .int n :: rest)) := by
  intro T hT X
  subst hb
  have hpl : e.platform.magicAccessors = ({} : Platform).magicAccessors := by rw [X.admits.platform]
  obtain ⟨comp, cA, kA, b1, -, b2, b3, b4⟩ := arrayOverA_spec hover
  obtain ⟨comp', kC, cc', d1, d2, d3⟩ := Cond.arrayClass_spec harr
  cases (show s.vm.findClass "[I" = some comp from b1).symm.trans (show s.vm.findClass "[I" = some comp' from d1)
  obtain ⟨c0, g1, g2⟩ := Cond.classLink_spec hown hclink e.platform hpl
  cases (show s.vm.findClass "[[I" = some cA from b4).symm.trans g1
  obtain ⟨hg1, hwarm, hready⟩ := State.classEntry (e := e) X.warmed g2
  generalize T.vm.noted m.cls idx (.cls cA) = vm1 at hg1 hwarm hready
  have hal : s.vm.Alike vm1 := hwarm.alike
  obtain ⟨kA1, y1, y2⟩ := hal.2.2 _ _ b2
  obtain ⟨kC1, z1, z2⟩ := hal.2.2 _ _ d2
  have y3 : kA1.kind = .array comp (.array .int) := by rw [y2]; exact b3
  have z3 : kC1.kind = .array cc' .int := by rw [z2]; exact d3
  have X1 := X.noted hwarm
  obtain ⟨r1, r2⟩ := X.roomAbove hcells hslots
  have XF : ∀ i, ∃ lx : List Loc, (∀ q ∈ lx, H0.size ≤ q.base) ∧ Stand p l e R s m args below meth c (xgr (T.setVm vm1) cA comp n.toNatClampNeg k.toNatClampNeg i) lx (cells + (1 + i)) (slots + (n.toNatClampNeg + i * k.toNatClampNeg)) := by
    intro i
    induction i with
    | zero =>
      refine ⟨locs, hl, ?_⟩
      have h0 := X1.pushed (xgo cA n.toNatClampNeg (T.setVm vm1).heap.size 0)
      have e0 : (xgo cA n.toNatClampNeg (T.setVm vm1).heap.size 0).slots.size = n.toNatClampNeg := by unfold xgo; rw [arrV_size]
      rw [e0] at h0
      rw [xgr_0]
      simpa using h0
    | succ i ih =>
      obtain ⟨lx, lx1, lx2⟩ := ih
      obtain ⟨f1, f2, f3, f4, f5, f6⟩ := xgr_facts (T.setVm vm1) cA comp n.toNatClampNeg k.toNatClampNeg i
      have c0 : ((xgr (T.setVm vm1) cA comp n.toNatClampNeg k.toNatClampNeg i).pushCell (xgi comp k.toNatClampNeg)).heap[(T.setVm vm1).heap.size]? = some (xgo cA n.toNatClampNeg (T.setVm vm1).heap.size i) := by
        have hlt : (T.setVm vm1).heap.size < (xgr (T.setVm vm1) cA comp n.toNatClampNeg k.toNatClampNeg i).heap.size := by rw [f1]; omega
        rw [State.heap_pushCell_of_lt _ _ hlt]; exact f2
      have h1 := (lx2.pushed (xgi comp k.toNatClampNeg)).stored c0 i (.ref ((T.setVm vm1).heap.size + 1 + i))
      rw [xgo_next, arrV_size] at h1
      refine ⟨_, ?_, by
        rw [show cells + (1 + (i + 1)) = cells + (1 + i) + 1 by omega, show slots + (n.toNatClampNeg + (i + 1) * k.toNatClampNeg) = slots + (n.toNatClampNeg + i * k.toNatClampNeg) + k.toNatClampNeg by rw [Nat.succ_mul]; omega]
        exact h1⟩
      intro q hq
      rcases List.mem_append.mp hq with z | z
      · exact lx1 q z
      · rw [List.mem_singleton.mp z]
        show H0.size ≤ T.heap.size
        rw [hT]
        exact hR.2.1
  obtain ⟨lx, lx1, lx2⟩ := XF n.toNatClampNeg
  obtain ⟨f1, f2, f3, f4, f5, f6⟩ := xgr_facts (T.setVm vm1) cA comp n.toNatClampNeg k.toNatClampNeg n.toNatClampNeg
  have hs0 : (T.setVm vm1).heap.size = h.2.1 := by show T.heap.size = _; rw [hT]; exact hR.1
  have hh0 : ∀ q : Nat, q < h.2.1 → (xgr (T.setVm vm1) cA comp n.toNatClampNeg k.toNatClampNeg n.toNatClampNeg).heap[q]? = H[q]? := fun q hq => by
    rw [f3 q (by rw [hs0]; exact hq)]
    show T.heap[q]? = _
    rw [hT]
  rw [hs0] at f1 f2 f3 f4
  have hHR : xHR D cl H0 s (xgrid h 4 0 n.toNatClampNeg k.toNatClampNeg) (xgr (T.setVm vm1) cA comp n.toNatClampNeg k.toNatClampNeg n.toNatClampNeg).heap := by
    refine ⟨f1, by rw [f1]; have := hR.2.1; rw [hR.1] at this; omega, fun q hq => ?_, fun q ex hq => ?_⟩
    · have := hR.2.1
      rw [hR.1] at this
      rw [hh0 q (by omega)]
      exact hR.2.2.1 q hq
    · have hb0 := hR.2.1
      rw [hR.1] at hb0
      unfold xgrid at hq
      dsimp only at hq
      by_cases q1 : q = h.2.1
      · rw [if_pos q1] at hq
        cases hq
        refine ⟨Or.inr ⟨by show (4 : Nat) ≠ 3; decide, cA, ?_, ?_, ?_⟩, Or.inr (by omega)⟩
        · rw [q1, f2]
          have : xgo cA n.toNatClampNeg h.2.1 n.toNatClampNeg = arrV cA n.toNatClampNeg (xvl (xref (fun j => if j < n.toNatClampNeg then some (h.2.1 + 1 + j) else none))) := rfl
          rw [this]
        · exact fun N z => ⟨(fun k h => by cases h), kA, b2, comp, b3⟩
        · exact b4
      · rw [if_neg q1] at hq
        by_cases q2 : h.2.1 < q ∧ q ≤ h.2.1 + n.toNatClampNeg
        · rw [if_pos q2] at hq
          cases hq
          refine ⟨Or.inr ⟨by show (0 : Nat) ≠ 3; decide, comp, ?_, ?_, ?_⟩, Or.inr (by omega)⟩
          · have := f4 (q - (h.2.1 + 1)) (by omega)
            rw [show h.2.1 + 1 + (q - (h.2.1 + 1)) = q by omega] at this
            rw [this]
            rfl
          · exact fun N z => ⟨(fun k h => by cases h), kC, d2, cc', d3⟩
          · exact d1
        · rw [if_neg q2] at hq
          have hlt := hR.lt hq
          rw [hR.1] at hlt
          exact ⟨(hR.2.2.2 q ex hq).1.kept (hh0 q hlt), (hR.2.2.2 q ex hq).2⟩
  obtain ⟨t, t1, t2⟩ := kk _ lx hHR lx1 _ rfl lx2
  · refine ⟨t, ?_, t2⟩
    have l1 : ¬ n.toNatClampNeg > e.platform.arrayLengthLimit := by rw [Launch.admits_arrayLengthLimit X.admits]; omega
    have l2 : ¬ n.toNatClampNeg * componentBytes (.array .int) > e.platform.maxHeapBytes := by
      rw [Launch.admits_maxHeapBytes X.admits]; show ¬ n.toNatClampNeg * 4 > 536870912; omega
    have l3 : ¬ k.toNatClampNeg > e.platform.arrayLengthLimit := by rw [Launch.admits_arrayLengthLimit X.admits]; omega
    have l4 : ¬ k.toNatClampNeg * componentBytes .int > e.platform.maxHeapBytes := by
      rw [Launch.admits_maxHeapBytes X.admits]; show ¬ k.toNatClampNeg * 4 > 536870912; omega
    jvm_step X.here [hx, show decode c.code (F0 m pc ls (.int k :: .int n :: rest)).pc = .ok (.multianewarray idx 2, 4) from hd]
    simp only [multianewarray.sem, wp_bind', W.resolveClassAt_links (State.method?_setTop (F0 m pc ls (.int k :: .int n :: rest)) X.here.top) hg1]
    rw [W.popN, if_neg (by decide)]
    refine ⟨F0 m pc ls (.int k :: .int n :: rest), State.topJava?_setTop' (s := T.setVm vm1) _ X.here.top, [.int n, .int k], rest, rfl, rfl, ?_⟩
    simp only [List.mapM_cons, List.mapM_nil, wp_bind', wp_pure']
    refine xg_all (kA := kA1) (kc := kC1) (comp := comp) (cc := cc') y1 y3 z1 z3 hn hk l1 l2 l3 l4 (by show T.heap.size + _ ≤ _; omega) (by show T.slotsUsed + _ ≤ _; omega) (fun d' acts' => ?_)
    have eS : ((T.setTop (F0 m pc ls (.int k :: .int n :: rest))).setVm vm1).setTop { F0 m pc ls (.int k :: .int n :: rest) with stack := rest } = (T.setVm vm1).setTop { F0 m pc ls (.int k :: .int n :: rest) with stack := rest } := by
      show ((T.setVm vm1).setTop _).setTop _ = _
      rw [State.setTop_setTop]
    rw [eS, xgr_top]
    simp only [wp_bind', W.mark, W.pushRef, State.topJava?_setTop' _ lx2.here.top, Option.some.injEq, exists_eq_left', State.setTop_setTop, State.heap_setTop]
    intro acts
    simp [jvm, lx2.here.top]
    rw [← hs0] at t1
    exact t1
end XCP
/-- a making and a throw -/
def xThr (l : Launch) (D : va_G) (cl : List vw_C) (H0 : Heap) (V : Nat → Value) (G : Nat → xM) (WL HL : List Cond) (SL : List (String × Nat × String)) (NM : List String) (EX : List Nat) (ty0 : Nat → Nat → FieldType) (sf : String × String × String) (host : String) (nG : Nat) : Prop :=
  ∀ (M : xM) (p : Program) (e : Env) (R : Room) (s : State) (m : MethodId) (args : Array Value) (below : List Frame) (meth : Method) (c : Code), xCx D cl H0 WL HL SL NM EX V ty0 sf host nG G M p R s m meth c → ∀ (pc k a b nx : Nat) (hs : List Nat) (h : xH) (N0 S0 : Nat),
    xtok WL HL cl SL NM M pc k a b hs = true → N0 ≤ h.2.1 → S0 ≤ h.2.2 → (xnew h (xO' a []) b).2.1 - N0 ≤ R.cells → (xnew h (xO' a []) b).2.2 - S0 ≤ R.slots → ∀ (H : Heap) (locs : List Loc) (ls : Array Slot) {lo : List (Option Value)}, xHR D cl H0 s h H → xl ls (xml M) lo → (∀ q ∈ locs, H0.size ≤ q.base) →
      W p l e R s m args below meth c H locs (h.2.1 - N0) (h.2.2 - S0) (xQ D cl H0 s below (.inr (a, h.2.1)) (xnew h (xO' a []) b) N0 S0) (F0 m pc ls [])
