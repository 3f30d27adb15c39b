/-! entering a method; copying; throwing -/
theorem xkind_fit {k : Nat} {ty : FieldType} {w : Value} (h1 : xkind k ty = true) (h2 : xfit k w = true) : narrow ty w = w ∧ fits ty w = true := by
  unfold xkind at h1
  split at h1
  · cases w <;> first | exact ⟨rfl, rfl⟩ | exact absurd h2 (by simp [xfit])
  · cases w with
    | int x => rcases of_decide_eq_true h2 with rfl | rfl <;> exact ⟨rfl, rfl⟩
    | _ => exact absurd h2 (by simp [xfit])
  · cases w <;> first | exact ⟨rfl, rfl⟩ | exact absurd h2 (by simp [xfit])
  · cases w <;> first | exact ⟨rfl, rfl⟩ | exact absurd h2 (by simp [xfit])
  · cases h1
section XEN
variable {l : Launch} {cl : List vw_C} {WL : List Cond} {host : String}
variable {p : Program} {e : Env} {R : Room} {s : State} {m : MethodId} {args : Array Value} {below : List Frame} {meth : Method} {c : Code} {T : State} {locs : List Loc} {cells slots : Nat}
theorem xpar_len {Z : xM} {b : Nat} {sig : ClassFile.MethodDescriptor} (h : xpar Z b = true) (hs : parseMethodDescriptor (xnm Z).desc = some sig) : b = sig.parameters.length := by
  have h1 := of_decide_eq_true h
  rw [hs] at h1
  exact (Option.some.inj h1).symm
theorem x_entS {own : String} {bytes : ByteArray} (X : Stand p l e R s m args below meth c T locs cells slots) (hx : p.tables.exec = Jvm.exec) (hb : c.code = bytes) (hown : s.vm.findClass own = some m.cls) (hw : xWd WL s) {Z : xM} (hgz : ∃ hs, xmok WL cl Z hs = true) {p0 k b pc : Nat} (hlink : xlink WL host own p0 k (xnm Z) = true)
    (hst : (Cond.static (xnm Z)) ∈ WL) (hpar : xpar Z b = true) {as rest : List Value} (hlen : as.length = b) {mk : MethodId} (hmk : s.methodNamed? (xnm Z) = some mk) {ls : Array Slot} (hd : decode bytes pc = .ok (.invokestatic k, 3)) :
    ∃ vm₁, s.WarmedH vm₁ ∧ Stand p l e R s m args below meth c (T.setVm vm₁) locs cells slots ∧
      ∀ target, (∀ acts, Steps p.tables e below (doInvoke e ((T.setVm vm₁).setTop (F0 m pc ls rest)) acts mk as.toArray).1 target) → Steps p.tables e below (T.setTop (F0 m pc ls (as.reverse ++ rest))) target := by
  obtain ⟨hs, hokZ⟩ := hgz
  obtain ⟨mk', methZ, cZ, q1, q2, q3, q4, q5, q6, q7, q8, q9, ⟨kZ, qk, qi⟩, q10, q11⟩ := x_mfacts (s := s) hokZ hw
  cases hmk.symm.trans q1
  have hstatic : methZ.isStatic = true := Cond.static_spec q1 q2 (hw _ hst args s (State.WarmedH.refl s))
  have hl' : as.length = methZ.sig.parameters.length := hlen.trans (xpar_len hpar q9)
  simp only [xlink, Bool.or_eq_true] at hlink
  rcases hlink with hlk | hlk
  · obtain ⟨vm', X', st⟩ := X.invokestatic hx hown (hw _ (xin_mem hlk) args s (State.WarmedH.refl s)) q1 q2 hstatic qk qi q11 (g := F0 m pc ls (as.reverse ++ rest)) rfl (argsL := as) (rest := rest) hl' rfl (by rw [hb]; exact hd)
    exact ⟨vm', X'.warmed, X', st⟩
  · obtain ⟨vm', X', st⟩ := X.invokestaticNest hx hown (hw _ (xin_mem hlk) args s (State.WarmedH.refl s)) q1 q2 hstatic qk qi q11 (g := F0 m pc ls (as.reverse ++ rest)) rfl (argsL := as) (rest := rest) hl' rfl (by rw [hb]; exact hd)
    exact ⟨vm', X'.warmed, X', st⟩
theorem x_entV {own : String} {bytes : ByteArray} (X : Stand p l e R s m args below meth c T locs cells slots) (hx : p.tables.exec = Jvm.exec) (hb : c.code = bytes) (hown : s.vm.findClass own = some m.cls) (hw : xWd WL s) {Z : xM} (hgz : ∃ hs, xmok WL cl Z hs = true) {p0 k b pc : Nat} (hlink : xlink WL host own p0 k (xnm Z) = true)
    (hin : (Cond.instanceMethod (xnm Z)) ∈ WL) (hsel : (Cond.selects (xnm Z).cls (xnm Z) (xnm Z)) ∈ WL) (hpar : xpar Z b = true) {o : Nat} {as rest : List Value} (hlen : as.length = b) {mk : MethodId} (hmk : s.methodNamed? (xnm Z) = some mk) {ls : Array Slot}
    {cellB : Cell} (hcell : T.heap[o]? = some cellB) (hobj : cellB.vm.isStatics = false) (hcls : s.vm.findClass (xnm Z).cls = some cellB.cls) (hd : decode bytes pc = .ok (.invokevirtual k, 3)) :
    ∃ vm₁, s.WarmedH vm₁ ∧ Stand p l e R s m args below meth c (T.setVm vm₁) locs cells slots ∧
      ∀ target, (∀ acts, Steps p.tables e below (doInvoke e ((T.setVm vm₁).setTop (F0 m pc ls rest)) acts mk (Value.ref o :: as).toArray).1 target) → Steps p.tables e below (T.setTop (F0 m pc ls ((Value.ref o :: as).reverse ++ rest))) target := by
  obtain ⟨hs, hokZ⟩ := hgz
  obtain ⟨mk', methZ, cZ, q1, q2, q3, q4, q5, q6, q7, q8, q9, ⟨kZ, qk, qi⟩, q10, q11⟩ := x_mfacts (s := s) hokZ hw
  cases hmk.symm.trans q1
  obtain ⟨mk2, meth2, i1, i2, i3, i4⟩ := Cond.instanceMethod_spec (hw _ hin args s (State.WarmedH.refl s))
  cases q1.symm.trans i1
  cases q2.symm.trans i2
  have hl' : as.length = methZ.sig.parameters.length := hlen.trans (xpar_len hpar q9)
  obtain ⟨c2, r2, m2, z1, z2, z3, z4, kP, hkP, hkPi⟩ := Cond.selects_spec (hw _ hsel args s (State.WarmedH.refl s))
  cases hcls.symm.trans z1
  cases (State.methodFound?_of_named q1 q11).symm.trans z2
  cases q1.symm.trans z3
  have hselP : selectMethod e.platform s.vm cellB.cls mk = .method mk := by rw [Launch.admits_selectMethod X.admits]; exact z4
  have hstk : (F0 m pc ls ((Value.ref o :: as).reverse ++ rest)).stack = as.reverse ++ .ref o :: rest := by show (Value.ref o :: as).reverse ++ rest = _; simp
  simp only [xlink, Bool.or_eq_true] at hlink
  rcases hlink with hlk | hlk
  · obtain ⟨vm', X', st⟩ := X.invokevirtual hx hown (hw _ (xin_mem hlk) args s (State.WarmedH.refl s)) q1 q2 i3 hkP hkPi q11 (a := o) (cell := cellB) hcell (fun z h => by rw [h] at hobj; cases hobj) hselP q2 i4 hkP hkPi (g := F0 m pc ls ((Value.ref o :: as).reverse ++ rest)) rfl (argsL := as) (rest := rest) hl' hstk (by rw [hb]; exact hd)
    exact ⟨vm', X'.warmed, X', st⟩
  · obtain ⟨vm', X', st⟩ := X.invokevirtualNest hx hown (hw _ (xin_mem hlk) args s (State.WarmedH.refl s)) q1 q2 i3 hkP hkPi q11 (a := o) (cell := cellB) hcell (fun z h => by rw [h] at hobj; cases hobj) hselP q2 i4 hkP hkPi (g := F0 m pc ls ((Value.ref o :: as).reverse ++ rest)) rfl (argsL := as) (rest := rest) hl' hstk (by rw [hb]; exact hd)
    exact ⟨vm', X'.warmed, X', st⟩
theorem x_entI {own : String} {bytes : ByteArray} (X : Stand p l e R s m args below meth c T locs cells slots) (hx : p.tables.exec = Jvm.exec) (hb : c.code = bytes) (hown : s.vm.findClass own = some m.cls) (hw : xWd WL s) {Z : xM} (hgz : ∃ hs, xmok WL cl Z hs = true) {p0 k b pc : Nat} (hlink : xlink WL host own p0 k (xnm Z) = true)
    (hin : (Cond.instanceMethod (xnm Z)) ∈ WL) (hname : (xnm Z).name = "<init>") (hhs : xhs Z = []) (hrt : xrt Z = none) (hpar : xpar Z b = true) {o : Nat} {as rest : List Value} (hlen : as.length = b) {mk : MethodId} (hmk : s.methodNamed? (xnm Z) = some mk) {ls : Array Slot} (hd : decode bytes pc = .ok (.invokespecial k, 3)) :
    ∃ vm₁, s.WarmedH vm₁ ∧ Stand p l e R s m args below meth c (T.setVm vm₁) locs cells slots ∧
      ∀ target, (∀ acts, Steps p.tables e below (doInvoke e ((T.setVm vm₁).setTop (F0 m pc ls rest)) acts mk (Value.ref o :: as).toArray).1 target) → Steps p.tables e below (T.setTop (F0 m pc ls ((Value.ref o :: as).reverse ++ rest))) target := by
  obtain ⟨hs, hokZ⟩ := hgz
  obtain ⟨mk', methZ, cZ, q1, q2, q3, q4, q5, q6, q7, q8, q9, ⟨kZ, qk, qi⟩, q10, q11⟩ := x_mfacts (s := s) hokZ hw
  cases hmk.symm.trans q1
  have hcode : (Cond.code (xnm Z) (xby Z) (xml Z) none) ∈ WL := by
    simp only [xmok, Bool.and_eq_true, hhs, hrt] at hokZ
    exact xin_mem hokZ.1.1.2
  have hpl : e.platform.magicAccessors = ({} : Platform).magicAccessors := by rw [X.admits.platform]
  have hstk : (F0 m pc ls ((Value.ref o :: as).reverse ++ rest)).stack = as.reverse ++ .ref o :: rest := by show (Value.ref o :: as).reverse ++ rest = _; simp
  have hl' : ∀ sig, parseMethodDescriptor (xnm Z).desc = some sig → as.length = sig.parameters.length := fun sig h => hlen.trans (xpar_len hpar h)
  simp only [xlink, Bool.or_eq_true] at hlink
  rcases hlink with hlk | hlk
  · obtain ⟨tm, methM, cM, kP, vm₁, hnamed, hmethM, hcodeM, -, hlocalsM, -, hkP, -, hW₁, hstep₁⟩ := Steps.initColdArgs (e := e) X.here hx X.warmed hpl hown hname q11 (hw _ (xin_mem hlk) args s (State.WarmedH.refl s)) (hw _ hin args s (State.WarmedH.refl s)) (hw _ hcode args s (State.WarmedH.refl s)) (f := F0 m pc ls ((Value.ref o :: as).reverse ++ rest)) rfl hl' hstk (by rw [hb]; exact hd)
    cases q1.symm.trans hnamed
    exact ⟨vm₁, hW₁, X.noted hW₁, hstep₁⟩
  · obtain ⟨tm, methM, cM, kP, vm₁, hnamed, hmethM, hcodeM, -, hlocalsM, -, hkP, -, hW₁, hstep₁⟩ := Steps.initColdArgsNest (e := e) X.here hx X.warmed hpl hown hname q11 (hw _ (xin_mem hlk) args s (State.WarmedH.refl s)) (hw _ hin args s (State.WarmedH.refl s)) (hw _ hcode args s (State.WarmedH.refl s)) (f := F0 m pc ls ((Value.ref o :: as).reverse ++ rest)) rfl hl' hstk (by rw [hb]; exact hd)
    cases q1.symm.trans hnamed
    exact ⟨vm₁, hW₁, X.noted hW₁, hstep₁⟩
end XEN
section XCP
variable {p : Program} {l : Launch} {e : Env} {R : Room} {s : State} {m : MethodId} {args : Array Value} {below : List Frame} {meth : Method} {c : Code} {H : Heap} {locs : List Loc} {cells slots : Nat} {Q : State → Prop}
variable {cc : ByteArray} {pc : Nat} {ls : Array Slot} {rest : List Value} {D : va_G} {cl : List vw_C} {H0 : Heap} {h : xH}
theorem xclamp {z : Int32} (hz : ¬ z < 0) : z.toInt = (z.toNatClampNeg : Int) := by
  have hz0 : (0 : Int) ≤ z.toInt := by
    have := Int32.not_lt.mp hz
    simpa using Int32.le_iff_toInt_le.mp this
  show z.toInt = ((z.toInt.toNat : Nat) : Int)
  omega
theorem xw_copy (hx : p.tables.exec = Jvm.exec) (hb : c.code = cc) (hml : c.maxLocals = ls.size) {own : String} {index : Nat} (hown : s.vm.findClass own = some m.cls) (hlink : (Cond.methodLink own index arraycopyName).before args s = true) (hnat : (Cond.native arraycopyName).before args s = true) (hstat : (Cond.static arraycopyName).before args s = true) (hini : (Cond.initialized "java/lang/System").before args s = true)
    (hR : xHR D cl H0 s h H) (hl : ∀ q ∈ locs, H0.size ≤ q.base) {a0 a n0 n1 : Nat} {f g : Nat → Int32} (ha0 : h.1 a0 = some (.inl (0, n0, .inl f))) (ha1 : h.1 a = some (.inl (0, n1, .inl g))) {sp dp n : Int32} (h1 : ¬ sp < 0) (h2 : ¬ dp < 0) (h3 : ¬ n < 0) (h4 : sp.toNatClampNeg + n.toNatClampNeg ≤ n0) (h5 : dp.toNatClampNeg + n.toNatClampNeg ≤ n1)
    (hframes : 1 ≤ R.frames) (hlocals : (rest.map fun v => v.category).sum + (nativeFrameWords "java/lang/System" "arraycopy" 5 + 11) ≤ R.locals) (hdg : decode cc pc = .ok (.invokestatic index, 3))
    (kk : ∀ (H1 : Heap) (locs1 : List Loc), xHR D cl H0 s (xset h a (xA 0 n1 (xint (va_cpy f g sp.toNatClampNeg dp.toNatClampNeg n.toNatClampNeg)))) H1 → (∀ q ∈ locs1, H0.size ≤ q.base) → W p l e R s m args below meth c H1 locs1 cells slots Q (F0 m (pc + 3) ls rest)) :
    W p l e R s m args below meth c H locs cells slots Q (F0 m pc ls (.int n :: .int dp :: .ref a :: .int sp :: .ref a0 :: rest)) := by
  intro T hT X
  rcases (hR.2.2.2 a0 _ ha0).1 with ⟨z0, -⟩ | ⟨-, c0, e0, r0, w0⟩
  · exact absurd (show (0 : Nat) = 3 from z0) (by decide)
  rcases (hR.2.2.2 a _ ha1).1 with ⟨z0, -⟩ | ⟨-, c1, e1, r1, w1⟩
  · exact absurd (show (0 : Nat) = 3 from z0) (by decide)
  have e0 : H[a0]? = some (arrV c0 n0 (fun j => .int (f j))) := e0
  have e1 : H[a]? = some (arrV c1 n1 (fun j => .int (g j))) := e1
  obtain ⟨-, k0, hk0, cm0, hkk0⟩ := r0 n0 (fun j => .int (f j))
  obtain ⟨-, k1, hk1, cm1, hkk1⟩ := r1 n1 (fun j => .int (g j))
  obtain ⟨vm', X', step⟩ := X.arraycopy hx hown hlink hnat hstat hini (src := a0) (dst := a) (cs := arrV c0 n0 (fun j => .int (f j))) (cd := arrV c1 n1 (fun j => .int (g j))) (srcPos := sp) (destPos := dp) (n := n) (by rw [hT]; exact e0) (by rw [hT]; exact e1)
    (fun _ z => by cases z) (fun _ z => by cases z) (fun z => by cases z) (fun z => by cases z) hk0 hk1 hkk0 hkk1 (by rfl) h1 h2 h3
    (by rw [xclamp h1, xclamp h3, arrV_size]; omega) (by rw [xclamp h2, xclamp h3, arrV_size]; omega)
    (fun vm₁ _ i hi => by
      have q : (arrV c0 n0 (fun j => Value.int (f j))).slots.getD (sp.toNatClampNeg + i) .null = .int (f (sp.toNatClampNeg + i)) := by
        rw [Array.getD_eq_getD_getElem?, arrV_read _ _ (by omega)]
        rfl
      rw [q]
      exact ⟨rfl, trivial⟩)
    (g := F0 m pc ls (.int n :: .int dp :: .ref a :: .int sp :: .ref a0 :: rest)) rfl (by rw [hml]) (rest := rest) rfl (by rw [hb]; exact hdg) hframes (by show 2 * 0 + _ + _ ≤ _; omega)
  have eq1 : copied (arrV c0 n0 (fun j => .int (f j))) (arrV c1 n1 (fun j => .int (g j))) sp dp n = arrV c1 n1 (fun j => .int (va_cpy f g sp.toNatClampNeg dp.toNatClampNeg n.toNatClampNeg j)) := va_copied (fun z => .int z) c0 c1 f g h4
  rw [eq1] at X' step
  have hlt : a < T.heap.size := by rw [hT]; exact (Array.getElem?_eq_some_iff.mp e1).1
  have old := hR.old ha1 (xro3 (by decide))
  obtain ⟨t, t1, t2⟩ := kk ((T.setVm vm').setCell a (arrV c1 n1 (fun j => .int (va_cpy f g sp.toNatClampNeg dp.toNatClampNeg n.toNatClampNeg j)))).heap _
    (hR.set ha1 (xro3 (by decide)) (Or.inr ⟨show (0 : Nat) ≠ 3 by decide, c1, heapAt_setCell_self (s := T.setVm vm') _ hlt, r1, w1⟩) (by rw [size_setCell]; show T.heap.size = _; rw [hT]) (fun q hq => by rw [heapAt_setCell_ne _ (Ne.symm hq)]; show T.heap[q]? = _; rw [hT]))
    (fun q hq => by
      rcases List.mem_append.mp hq with z | z
      · exact hl q z
      · obtain ⟨y, -, hy⟩ := List.mem_map.mp z
        rw [← hy]
        exact old) _ rfl X'
  exact ⟨t, step t t1, t2⟩
/-- an array of arrays -/
theorem xw_grid (hx : p.tables.exec = Jvm.exec) (hb : c.code = cc) (hR : xHR D cl H0 s h H) (hl : ∀ q ∈ locs, H0.size ≤ q.base) {own : String} {idx : Nat} (hown : s.vm.findClass own = some m.cls) (hclink : (Cond.classLink own idx "[[I").before args s = true) (hover : (Cond.arrayOver (.array .int)).before args s = true) (harr : (Cond.arrayClass .int).before args s = true)
    {n k : Int32} (hn : ¬ n < 0) (hk : ¬ k < 0) (hn' : n.toNatClampNeg ≤ 1000) (hk' : k.toNatClampNeg ≤ 1000000) (hcells : cells + (1 + n.toNatClampNeg) ≤ R.cells) (hslots : slots + (n.toNatClampNeg + n.toNatClampNeg * k.toNatClampNeg) ≤ R.slots) (hd : decode cc pc = .ok (.multianewarray idx 2, 4))
    (kk : ∀ (H1 : Heap) (locs1 : List Loc), xHR D cl H0 s (xgrid h 4 0 n.toNatClampNeg k.toNatClampNeg) H1 → (∀ q ∈ locs1, H0.size ≤ q.base) → W p l e R s m args below meth c H1 locs1 (cells + (1 + n.toNatClampNeg)) (slots + (n.toNatClampNeg + n.toNatClampNeg * k.toNatClampNeg)) Q (F0 m (pc + 4) ls (.ref h.2.1 :: rest))) :
    W p l e R s m args below meth c H locs cells slots Q (F0 m pc ls (.int k :: .int n :: rest)) := by
  sorry
end XCP
/-- a making and a throw -/
def xThr (l : Launch) (D : va_G) (cl : List vw_C) (H0 : Heap) (V : Nat → Value) (G : Nat → xM) (WL HL : List Cond) (SL : List (String × Nat × String)) (NM : List String) (EX : List Nat) (ty0 : Nat → Nat → FieldType) (sf : String × String × String) (host : String) (nG : Nat) : Prop :=
  ∀ (M : xM) (p : Program) (e : Env) (R : Room) (s : State) (m : MethodId) (args : Array Value) (below : List Frame) (meth : Method) (c : Code), xCx D cl H0 WL HL SL NM EX V ty0 sf host nG G M p R s m meth c → ∀ (pc k a b nx : Nat) (hs : List Nat) (h : xH) (N0 S0 : Nat),
    xtok WL HL cl SL NM M pc k a b hs = true → N0 ≤ h.2.1 → S0 ≤ h.2.2 → (xnew h (xO' a []) b).2.1 - N0 ≤ R.cells → (xnew h (xO' a []) b).2.2 - S0 ≤ R.slots → ∀ (H : Heap) (locs : List Loc) (ls : Array Slot) {lo : List (Option Value)}, xHR D cl H0 s h H → xl ls (xml M) lo → (∀ q ∈ locs, H0.size ≤ q.base) →
      W p l e R s m args below meth c H locs (h.2.1 - N0) (h.2.2 - S0) (xQ D cl H0 s below (.inr (a, h.2.1)) (xnew h (xO' a []) b) N0 S0) (F0 m pc ls [])
