/-! soundness, instruction by instruction -/
section XSND
variable {l : Launch} {D : va_G} {cl : List vw_C} {H0 : Heap} {V : Nat → Value} {F : Nat → List Value} {G : Nat → xM} {WL HL : List Cond} {SL : List (String × Nat × String)} {NM : List String} {EX : List Nat} {ty0 : Nat → Nat → FieldType} {sf : String × String × String} {host : String} {nG : Nat}
variable {p : Program} {e : Env} {R : Room} {s : State} {m : MethodId} {args : Array Value} {below : List Frame} {meth : Method} {c : Code}
/-- into a method and back: what the callee's run says of the caller's -/
theorem x_callee {T : State} {locs : List Loc} {cells slots : Nat} (X : Stand p l e R s m args below meth c T locs cells slots) {Z : xM} {g : JFrame} (hg : g.method = m) (hsize : g.locals.size = c.maxLocals) {ig : Instr} {len : Nat} (hdg : decode c.code g.pc = .ok (ig, len))
    {h hz : xH} {o : xO} {as : List Value} {mk : MethodId} {methZ : Method} {cZ : Code} (hmk : T.vm.method? mk = some methZ) (hck : methZ.code = some cZ) (hlk : methZ.locks = false) (hpk : T.plainMethod mk) (hmlz : cZ.maxLocals = xml Z) (hwt : xwt as ≤ xml Z)
    (hfr : xdp Z + 1 ≤ R.frames) (hlo : 2 * g.monitorRoom + (g.stack.map fun v => v.category).sum + (xml Z + 11) + xlc Z ≤ R.locals) (hce : cells + (hz.2.1 - h.2.1) ≤ R.cells) (hsl : slots + (hz.2.2 - h.2.2) ≤ R.slots)
    (hW : ∀ (ls : Array Slot), xl ls (xml Z) (xpad (xml Z) false as) → W p l e { frames := xdp Z, cells := hz.2.1 - h.2.1, slots := hz.2.2 - h.2.2, locals := xlc Z } (T.calling g mk as.toArray) mk as.toArray (.java g :: below) methZ cZ T.heap [] 0 0 (xQ D cl H0 (T.calling g mk as.toArray) (.java g :: below) o hz h.2.1 h.2.2) (F0 mk 0 ls [])) :
    (∃ (v : Option Value) (T' : State) (L : List Loc), o = .inl v ∧ Stand p l e R s m args below meth c T' (locs ++ L) (cells + (hz.2.1 - h.2.1)) (slots + (hz.2.2 - h.2.2)) ∧ (∀ q ∈ L, H0.size ≤ q.base) ∧ T.WarmedH T'.vm ∧ xHR D cl H0 T hz T'.heap ∧
        ∀ acts, Steps p.tables e below (doInvoke e (T.setTop g) acts mk as.toArray).1 (T'.setTop { g with pc := g.pc + len, stack := v.toList ++ g.stack })) ∨
    (∃ (k a : Nat) (T' : State) (L : List Loc), o = .inr (k, a) ∧ hz.1 a = some (xO' k []) ∧ Stand p l e R s m args below meth c T' (locs ++ L) (cells + (hz.2.1 - h.2.1)) (slots + (hz.2.2 - h.2.2)) ∧ (∀ q ∈ L, H0.size ≤ q.base) ∧ T.WarmedH T'.vm ∧ xHR D cl H0 T hz T'.heap ∧
        ∀ acts, Steps p.tables e below (doInvoke e (T.setTop g) acts mk as.toArray).1 ((T'.setTop g).pushFrame (.throwing a))) := by
  obtain ⟨Y, hin⟩ := X.into hg hsize hdg as.toArray (R' := { frames := xdp Z, cells := hz.2.1 - h.2.1, slots := hz.2.2 - h.2.2, locals := xlc Z }) hmk hck hlk hpk hfr (by rw [hmlz]; exact hlo) hce hsl
  rw [hmlz] at Y hin
  have hl := xl_entry as hwt
  obtain ⟨t, hst, oc, hrun, hend, hout, hR, hWm, L, hsame, hL⟩ := hW _ hl _ (by simp [State.pushFrame, State.setFrames, State.setTop, State.modifyTopJava]) Y
  rw [← lg_entry_eq] at hst
  have hst' : Steps p.tables e below (((T.setTop g).pushFrame (.java (entryFrame mk as.toArray (xml Z)))).setTop (entryFrame mk as.toArray (xml Z))) t := Steps.weaken (mid := [.java g]) (below := below) hst
  have hR' : xHR D cl H0 T hz t.heap := xHR.moved (U := T.calling g mk as.toArray) (U1 := T) (Vm.Alike.refl T.vm) hR
  cases o with
  | inl v =>
    have hout : oc = .returned v := hout
    subst hout
    obtain ⟨T', X', w1, w2, ht⟩ := X.outOf hg hdg hend hWm hsame
    refine Or.inl ⟨v, T', L, rfl, X', hL, w1, ?_, fun acts => ?_⟩
    · rw [ht] at hR'; simpa using hR'
    · rw [hin acts, ← ht]; exact hst'
  | inr q =>
    obtain ⟨k, a⟩ := q
    obtain ⟨hout, hcell⟩ : oc = .threw a ∧ hz.1 a = some (xO' k []) := hout
    subst hout
    obtain ⟨T', X', w1, w2, ht⟩ := X.outOfThrown hg hend hWm hsame
    refine Or.inr ⟨k, a, T', L, rfl, hcell, X', hL, w1, ?_, fun acts => ?_⟩
    · rw [ht, Stand.throwing_heap] at hR'; exact hR'
    · rw [hin acts, ← ht]; exact hst'
/-- the end of a walk by a note that is thrown -/
theorem x_leave {T : State} {locs : List Loc} {N0 S0 k a : Nat} {hf : xH} {target : State} {g : JFrame} (X : Stand p l e R s m args below meth c T locs (hf.2.1 - N0) (hf.2.2 - S0)) (hg : g.method = m) (hlk : g.locked = none) (hen : g.entered = []) (hout : ∀ x ∈ c.exceptionTable.toList, covers x g.pc = false) (hlocks : meth.locks = false)
    (hR : xHR D cl H0 s hf T.heap) (hc : hf.1 a = some (xO' k [])) (hl : ∀ q ∈ locs, H0.size ≤ q.base) (hs : Steps p.tables e below target ((T.setTop g).pushFrame (.throwing a))) :
    ∃ t, Steps p.tables e below target t ∧ xQ D cl H0 s below (.inr (k, a)) hf N0 S0 t := by
  obtain ⟨w1, w2, w3, w4, w5⟩ := X.leaveThrown a hg hlk hen hout hlocks
  exact ⟨_, hs.trans w1, .threw a, w2, w3, ⟨rfl, hc⟩, hR, w4, locs, w5, hl⟩
theorem xW_mono {H : Heap} {locs : List Loc} {cells slots : Nat} {Q Q' : State → Prop} {g : JFrame} (hq : ∀ t, Q t → Q' t) (w : W p l e R s m args below meth c H locs cells slots Q g) : W p l e R s m args below meth c H locs cells slots Q' g := by
  intro T hT X
  obtain ⟨t, a, b⟩ := w T hT X
  exact ⟨t, a, hq t b⟩
theorem xMQ {H : Heap} {hf : xH} {N0 S0 : Nat} {v : Option Value} (hR : xHR D cl H0 s hf H) : ∀ t, MQ below (fun _ st o t => o = .returned v ∧ t.heap = H) args s (hf.2.1 - N0) (hf.2.2 - S0) (fun q => H0.size ≤ q) t → xQ D cl H0 s below (.inl v) hf N0 S0 t := by
  rintro t ⟨o, h1, h2, ⟨rfl, h3⟩, L, ⟨-, h4, h5⟩, h6⟩
  exact ⟨_, h1, h2, rfl, by rw [h3]; exact hR, h4, L, h5, h6⟩
theorem x_mfacts {Z : xM} {hs : List Nat} (hok : xmok WL cl Z hs = true) (hw : xWd WL s) : ∃ (mk : MethodId) (methZ : Method) (cZ : Code), s.methodNamed? (xnm Z) = some mk ∧ s.vm.method? mk = some methZ ∧ methZ.code = some cZ ∧ cZ.code = xby Z ∧ cZ.maxLocals = xml Z ∧ methZ.sig.returnType = xrt Z ∧ methZ.locks = false ∧
    cZ.exceptionTable.toList.map (fun x => (x.startPc, x.endPc, x.handlerPc, x.catchType)) = (xhs Z).map (fun y => (y.1, y.2.1, y.2.2.1, y.2.2.2.1)) ∧ parseMethodDescriptor (xnm Z).desc = some methZ.sig ∧ (∃ k, s.vm.classes[mk.cls]? = some k ∧ k.init = .initialized) ∧ plainFor (xnm Z) = true ∧ ((xnm Z).cls ≠ "java/lang/invoke/MethodHandle" ∧ (xnm Z).cls ≠ "java/lang/invoke/VarHandle") := by
  simp only [xmok, Bool.and_eq_true, decide_eq_true_eq] at hok
  obtain ⟨⟨⟨⟨⟨h1, h2⟩, h3⟩, h4⟩, h5⟩, -⟩ := hok
  have hini := hw _ (xin_mem h5) #[] s (State.WarmedH.refl s)
  have fin : ∀ mk : MethodId, s.methodNamed? (xnm Z) = some mk → ∃ k, s.vm.classes[mk.cls]? = some k ∧ k.init = .initialized := by
    intro mk hn
    obtain ⟨k, hk, -⟩ := className_of_methodNamed hn
    exact ⟨k, hk, Cond.initialized_spec (findClass_of_methodNamed hn) hk hini⟩
  cases hh : xhs Z with
  | nil =>
    rw [hh] at h4
    have hc := hw _ (xin_mem h4) #[] s (State.WarmedH.refl s)
    obtain ⟨mk, hn⟩ := Cond.code_named hc
    obtain ⟨meth, c, q1, q2, q3, q4, q5, q6, q7, q8⟩ := Cond.code_spec hn hc
    refine ⟨mk, meth, c, hn, q1, q2, q3, q4, q5, q6, ?_, q8, fin mk hn, h1, h2, h3⟩
    have : c.exceptionTable = #[] := by simpa using q7
    rw [this]; rfl
  | cons y ys =>
    rw [hh] at h4
    have hc := hw _ (xin_mem h4) #[] s (State.WarmedH.refl s)
    obtain ⟨mk, meth, c, hn, q1, q2, q3, q4, q5, q6, q7, q8⟩ := Cond.codeWith_spec hc
    exact ⟨mk, meth, c, hn, q1, q2, q3, q4, q6, q7, q5, q8, fin mk hn, h1, h2, h3⟩
/-- the claim at a number of steps -/
def xSnd (l : Launch) (D : va_G) (cl : List vw_C) (H0 : Heap) (V : Nat → Value) (F : Nat → List Value) (G : Nat → xM) (WL HL : List Cond) (SL : List (String × Nat × String)) (NM : List String) (EX : List Nat) (ty0 : Nat → Nat → FieldType) (sf : String × String × String) (host : String) (nG : Nat) (n : Nat) : Prop :=
  ∀ (M : xM) (f : xF) (h hf : xH) (o : xO), xrun V F G n M f h = some (o, hf) → ∀ (p : Program) (e : Env) (R : Room) (s : State) (m : MethodId) (args : Array Value) (below : List Frame) (meth : Method) (c : Code),
    xCx D cl H0 WL HL SL NM EX V ty0 sf host nG G M p R s m meth c → ∀ (N0 S0 : Nat), N0 ≤ h.2.1 → S0 ≤ h.2.2 → hf.2.1 - N0 ≤ R.cells → hf.2.2 - S0 ≤ R.slots →
    ∀ (H : Heap) (locs : List Loc) (ls : Array Slot), xHR D cl H0 s h H → xl ls (xml M) f.2.1 → (∀ q ∈ locs, H0.size ≤ q.base) →
      W p l e R s m args below meth c H locs (h.2.1 - N0) (h.2.2 - S0) (xQ D cl H0 s below o hf N0 S0) (F0 m f.1 ls f.2.2)
theorem x_call {n : Nat} (ih : xSnd l D cl H0 V F G WL HL SL NM EX ty0 sf host nG n) (hG : ∀ z, z < nG → xgood WL HL cl SL NM EX ty0 sf host nG G (G z)) {M : xM} (C : xCx D cl H0 WL HL SL NM EX V ty0 sf host nG G M p R s m meth c)
    {z pc : Nat} (hz : z < nG) {as rest st : List Value} {lo : List (Option Value)} {h hf : xH} {o : xO} {ig : Instr} (hcall : xcall G (xrun V F G n) M pc (pc + 3) lo z as rest h = some (o, hf)) (hdg : decode (xby M) pc = .ok (ig, 3)) (hroom : xroom M (G z) = true)
    {N0 S0 : Nat} (hN : N0 ≤ h.2.1) (hS : S0 ≤ h.2.2) (hRc : hf.2.1 - N0 ≤ R.cells) (hRs : hf.2.2 - S0 ≤ R.slots) {H : Heap} {locs : List Loc} {ls : Array Slot} (hR : xHR D cl H0 s h H) (hL : xl ls (xml M) lo) (hl : ∀ q ∈ locs, H0.size ≤ q.base)
    (hent : ∀ (T : State), T.heap = H → Stand p l e R s m args below meth c T locs (h.2.1 - N0) (h.2.2 - S0) → ∀ mk : MethodId, s.methodNamed? (xnm (G z)) = some mk → ∃ vm₁, s.WarmedH vm₁ ∧ Stand p l e R s m args below meth c (T.setVm vm₁) locs (h.2.1 - N0) (h.2.2 - S0) ∧
      ∀ target, (∀ acts, Steps p.tables e below (doInvoke e ((T.setVm vm₁).setTop (F0 m pc ls rest)) acts mk as.toArray).1 target) → Steps p.tables e below (T.setTop (F0 m pc ls st)) target) :
    W p l e R s m args below meth c H locs (h.2.1 - N0) (h.2.2 - S0) (xQ D cl H0 s below o hf N0 S0) (F0 m pc ls st) := by
  obtain ⟨hx, hb, hml, hrt, hlk, hnm, hmeth, htab, hsf, hfr, hlo, hgood⟩ := C
  have C' : xCx D cl H0 WL HL SL NM EX V ty0 sf host nG G M p R s m meth c := ⟨hx, hb, hml, hrt, hlk, hnm, hmeth, htab, hsf, hfr, hlo, hgood⟩
  obtain ⟨hwt, hcall⟩ := xB_s hcall
  obtain ⟨⟨oz, hzz⟩, hrz, hback⟩ := xS_s hcall
  simp only [Bool.and_eq_true, Nat.ble_eq] at hwt
  simp only [xroom, Bool.and_eq_true, Nat.ble_eq] at hroom
  have mo1 := xrun_mono n _ _ _ _ hrz
  have mo2 := xback_mono (xrun_mono n) hback
  dsimp only at mo1 mo2
  intro T hT X
  obtain ⟨⟨hsZ, hokZ⟩, hexZ, hokZ2⟩ := hG z hz
  obtain ⟨mk, methZ, cZ, q1, q2, q3, q4, q5, q6, q7, q8, q9, ⟨kZ, qk, qi⟩, q10, q11⟩ := x_mfacts (s := s) hokZ hsf.1
  obtain ⟨vm₁, hW₁, X₁, hst⟩ := hent T hT X mk q1
  have hmk' : (T.setVm vm₁).vm.method? mk = some methZ := hW₁.methodAt q2
  have hnk' : (T.setVm vm₁).methodNamed? (xnm (G z)) = some mk := X₁.named q1
  have hcat : 2 * (F0 m pc ls rest).monitorRoom + ((F0 m pc ls rest).stack.map fun v => v.category).sum ≤ 8 := by
    show 2 * 0 + (rest.map fun v => v.category).sum ≤ 8
    rw [← xwt_eq]; omega
  have hsz : (F0 m pc ls rest).locals.size = c.maxLocals := by rw [hml]; exact hL.1
  have hRT : xHR D cl H0 s h (T.setVm vm₁).heap := by show xHR D cl H0 s h T.heap; rw [hT]; exact hR
  have key := x_callee (D := D) (cl := cl) (H0 := H0) X₁ (Z := G z) (g := F0 m pc ls rest) rfl hsz (by rw [hb]; exact hdg) (h := h) (hz := hzz) (o := oz) (as := as) (mk := mk) hmk' q3 q7 (State.plainMethod.of_named q10 hnk' hmk') q5 hwt.2
    (Nat.le_trans hroom.1 hfr) (by have := hroom.2; have := hlo; omega) (by omega) (by omega) (fun lsz hlz => by
      have w := ih (G z) (0, xpad (xml (G z)) false as, []) h hzz oz hrz p e { frames := xdp (G z), cells := hzz.2.1 - h.2.1, slots := hzz.2.2 - h.2.2, locals := xlc (G z) } ((T.setVm vm₁).calling (F0 m pc ls rest) mk as.toArray) mk as.toArray (.java (F0 m pc ls rest) :: below) methZ cZ
        ⟨hx, q4, q5, q6, q7, hnk', hmk', q8, hsf.moved (u := (T.setVm vm₁).calling (F0 m pc ls rest) mk as.toArray) hW₁, Nat.le_refl _, Nat.le_refl _, ⟨⟨hsZ, hokZ⟩, hexZ, hokZ2⟩⟩ h.2.1 h.2.2 (Nat.le_refl _) (Nat.le_refl _) (Nat.le_refl _) (Nat.le_refl _) (T.setVm vm₁).heap [] lsz
        (xHR.moved (U := s) (U1 := (T.setVm vm₁).calling (F0 m pc ls rest) mk as.toArray) hW₁.alike hRT) hlz (fun q hq => by cases hq)
      rw [Nat.sub_self, Nat.sub_self] at w
      exact w)
  rcases key with ⟨v, T', L, rfl, X', hL', w1, hR', hs'⟩ | ⟨k, a, T', L, rfl, hcell, X', hL', w1, hR', hs'⟩
  · have hWs : s.WarmedH T'.vm := State.WarmedH.trans hW₁ w1
    have hRs' : xHR D cl H0 s hzz T'.heap := xHR.moved (U := T.setVm vm₁) (U1 := s) hW₁.alike.symm hR'
    have hc1 : h.2.1 - N0 + (hzz.2.1 - h.2.1) = hzz.2.1 - N0 := by omega
    have hc2 : h.2.2 - S0 + (hzz.2.2 - h.2.2) = hzz.2.2 - S0 := by omega
    rw [hc1, hc2] at X'
    have hlocs : ∀ q ∈ locs ++ L, H0.size ≤ q.base := fun q hq => (List.mem_append.mp hq).elim (hl q) (hL' q)
    cases v with
    | none =>
      have hb2 : xrun V F G n M (pc + 3, lo, rest) hzz = some (o, hf) := hback
      obtain ⟨t, t1, t2⟩ := ih M _ hzz hf o hb2 p e R s m args below meth c C' N0 S0 (by omega) (by omega) hRc hRs T'.heap (locs ++ L) ls hRs' hL hlocs T' rfl X'
      exact ⟨t, hst _ (fun acts => (hs' acts).trans t1), t2⟩
    | some v =>
      have hb2 : xrun V F G n M (pc + 3, lo, v :: rest) hzz = some (o, hf) := hback
      obtain ⟨t, t1, t2⟩ := ih M _ hzz hf o hb2 p e R s m args below meth c C' N0 S0 (by omega) (by omega) hRc hRs T'.heap (locs ++ L) ls hRs' hL hlocs T' rfl X'
      exact ⟨t, hst _ (fun acts => (hs' acts).trans t1), t2⟩
  · have hWs : s.WarmedH T'.vm := State.WarmedH.trans hW₁ w1
    have hRs' : xHR D cl H0 s hzz T'.heap := xHR.moved (U := T.setVm vm₁) (U1 := s) hW₁.alike.symm hR'
    have hc1 : h.2.1 - N0 + (hzz.2.1 - h.2.1) = hzz.2.1 - N0 := by omega
    have hc2 : h.2.2 - S0 + (hzz.2.2 - h.2.2) = hzz.2.2 - S0 := by omega
    rw [hc1, hc2] at X'
    have hlocs : ∀ q ∈ locs ++ L, H0.size ≤ q.base := fun q hq => (List.mem_append.mp hq).elim (hl q) (hL' q)
    cases hhs : xhs M with
    | nil =>
      simp only [xback, hhs, Option.some.injEq, Prod.mk.injEq] at hback
      obtain ⟨rfl, rfl⟩ := hback
      have hempty : ∀ x ∈ c.exceptionTable.toList, covers x pc = false := by
        rw [hhs] at htab
        have : c.exceptionTable.toList = [] := by simpa using htab
        rw [this]
        intro x hx'
        cases hx'
      obtain ⟨t, t1, t2⟩ := x_leave (N0 := N0) (S0 := S0) (k := k) (a := a) (hf := hzz) X' (g := F0 m pc ls rest) rfl rfl rfl hempty hlk hRs' hcell hlocs (Steps.refl _)
      exact ⟨t, hst _ (fun acts => (hs' acts).trans t1), t2⟩
    | cons y ys =>
      simp only [xback, hhs] at hback
      obtain ⟨hp, hhp, hback⟩ := xS_s hback
      rw [← hhs] at hhp
      obtain ⟨⟨hsM, hokM⟩, hexM, -⟩ := hgood
      obtain ⟨r, hr, cellX, x1, x2, x3, -⟩ := (hRs'.2.2.2 a _ hcell).1
      have hkEX : k ∈ EX := by
        by_cases hk : k ∈ EX
        · exact hk
        · exfalso
          have : ∀ (t : List (Nat × Nat × Nat × Nat × Nat)), (∀ y ∈ t, y.2.2.2.2 ∈ EX) → xhd t pc k = none := by
            intro t
            induction t with
            | nil => intro _; rfl
            | cons y t iht =>
              intro hy
              obtain ⟨a1, a2, a3, a4, a5⟩ := y
              have h5 : a5 ≠ k := fun z => hk (z ▸ hy _ List.mem_cons_self)
              have hb5 : Nat.beq a5 k = false := by
                cases hz : Nat.beq a5 k with
                | false => rfl
                | true => exact absurd (Nat.eq_of_beq_eq_true hz) h5
              simp only [xhd, hb5, Bool.and_false, cond_false]
              exact iht (fun y hy' => hy y (List.mem_cons_of_mem _ hy'))
          rw [this _ hexM] at hhp
          cases hhp
      have hKn := hsf.2.2.2.2.1.1 k r hr
      obtain ⟨kC, hkC, -⟩ := hKn.2.2
      simp only [xmok, Bool.and_eq_true] at hokM
      have hall := List.all_eq_true.mp hokM.2
      obtain ⟨vm', wf, hfind⟩ := x_find (s := s) (l := l) (e := e) (m := m) (k0 := D.1 k) (findClass_of_methodNamed hnm) (f := F0 m pc ls rest) rfl (a := a) (cell := cellX) X.admits (fun q hq => by rw [x3] at hq; cases hq) x2 ⟨kC, hkC⟩
        (K := fun j => if j ∈ EX then some (D.1 j) else none) (kx := k) (by simp [hkEX]) (fun j q hj => by
          by_cases hjE : j ∈ EX
          · simp only [hjE, if_true, Option.some.injEq] at hj
            rw [← hj]
            exact (hsf.2.2.2.1 k hkEX).2 j hjE
          · simp [hjE] at hj) c.exceptionTable.toList (xhs M) htab (fun y hy => by
          have h1 := hall y hy
          simp only [Bool.and_eq_true] at h1
          obtain ⟨h1, h2⟩ := h1
          refine ⟨fun z => ?_, ?_⟩
          · rw [z] at h1; exact absurd h1 (by decide)
          · split at h2
            · next C0 T0 N0' hcl =>
              obtain ⟨w, hw, hww⟩ := List.any_eq_true.mp h2
              have hww := of_decide_eq_true hww
              subst hww
              have hKy := hsf.2.2.2.2.1.1 _ _ hcl
              exact ⟨C0, D.1 y.2.2.2.2, fun a' U hU => hsf.1 _ hw a' U hU, hKy.2.1, by simp [hexM y hy]⟩
            · cases h2) ((T'.setTop (F0 m pc ls rest)).pushFrame (.throwing a)) (by rw [Stand.throwing_vm]; exact hWs) (by rw [Stand.throwing_heap]; exact x1) hp hhp
      have hmT : ((T'.setTop (F0 m pc ls rest)).pushFrame (.throwing a)).vm.method? (F0 m pc ls rest).method = some meth := by rw [Stand.throwing_vm]; exact X'.method'
      have hfd : xFinds e ((T'.setTop (F0 m pc ls rest)).pushFrame (.throwing a)) (F0 m pc ls rest) a hp vm' := fun Q E d acts => (W.findHandler_eq hmT X'.code).trans (hfind Q E d acts)
      have X'' := X'.noted wf
      have hb2 : xrun V F G n M (hp, lo, [.ref a]) hzz = some (o, hf) := hback
      obtain ⟨t, t1, t2⟩ := ih M _ hzz hf o hb2 p e R s m args below meth c C' N0 S0 (by omega) (by omega) hRc hRs T'.heap (locs ++ L) ls hRs' hL hlocs (T'.setVm vm') rfl X''
      exact ⟨t, hst _ (fun acts => (hs' acts).trans (x_caught X' rfl hfd t1)), t2⟩
end XSND
