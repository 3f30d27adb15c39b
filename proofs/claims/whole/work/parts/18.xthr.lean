/-! a walk that begins anew where it stands; making and throwing -/
section XRB
variable {p : Program} {l : Launch} {e : Env} {R : Room} {s : State} {m : MethodId} {args : Array Value} {below : List Frame} {meth : Method} {c : Code} {T : State} {locs : List Loc} {cells slots : Nat}
theorem x_rebase (X : Stand p l e R s m args below meth c T locs cells slots) (hc : cells ≤ R.cells) (hs : slots ≤ R.slots) :
    Stand p l e { frames := R.frames, cells := R.cells - cells, slots := R.slots - slots, locals := R.locals } (T.setFrames (.invoking m args :: below)) m args below meth c T [] 0 0 := by
  obtain ⟨g₀, hfr⟩ := X.frames_eq
  have hcur : T.cur < T.threads.size := State.cur_lt_of_frames hfr
  have hfs : (T.setFrames (.invoking m args :: below)).frames = .invoking m args :: below := State.frames_setFrames _ hcur
  obtain ⟨th, hth, -⟩ := State.frames_cons hfr
  have hT : (T.setFrames (.invoking m args :: below)).setFrames T.frames = T := by rw [State.setFrames_setFrames, State.setFrames_self hth]
  have hmT : T.vm.method? m = some meth := X.method'
  refine ⟨X.admits, X.cas, X.clock, hfs, ?_, ?_, hmT, X.code, X.here, X.tail, State.WarmedH.refl _, (State.stackLimits_setFrames _ _ _).symm, (State.stackBytes_setFrames _ _).symm, ?_⟩
  · have hr := X.room
    have hcl := X.cellsAbove (n := R.cells - cells) (by omega)
    have hsl := X.slotsAbove (n := R.slots - slots) (by omega)
    have hbk := X.book
    have l1 := State.localsInUse_invoking X.frames X.method X.code
    have l2 := State.localsInUse_invoking (s := T.setFrames (.invoking m args :: below)) hfs hmT X.code
    simp only [State.hasRoom, Bool.and_eq_true, decide_eq_true_eq] at hr ⊢
    obtain ⟨⟨⟨⟨r1, r2⟩, r3⟩, r4⟩, r5⟩ := hr
    rw [X.frames, l1] at r2
    rw [l1] at r1
    rw [hfs, l2, State.stackLimits_setFrames, State.stackBytes_setFrames, X.limits, X.bytes]
    exact ⟨⟨⟨⟨r1, r2⟩, hcl⟩, hsl⟩, hbk⟩
  · have hh := X.hears
    have hal := X.warmed.alike
    cases below with
    | nil =>
      simp only [State.hears] at hh ⊢
      show (T.vm.method? m).any _ = true
      rw [hal.method?]; exact hh
    | cons f r =>
      cases f <;> simp only [State.hears, State.code?_eq] at hh ⊢ <;> first | rfl | (show _ = true; first | (rw [show (T.setFrames _).vm = T.vm from rfl, hal.method?]; exact hh) | exact hh)
  · obtain ⟨t2, ht2, -⟩ := State.frames_cons hfs
    have h1 := (State.sameButNew.refl (T.setFrames (.invoking m args :: below)) ht2).setFrames T.frames (by simpa [State.setFrames] using hcur)
    rw [hT] at h1
    exact h1
end XRB
theorem x_throws {l : Launch} {D : va_G} {cl : List vw_C} {H0 : Heap} {V : Nat → Value} {G : Nat → xM} {WL HL : List Cond} {SL : List (String × Nat × String)} {NM : List String} {EX : List Nat} {ty0 : Nat → Nat → FieldType} {sf : String × String × String} {host : String} {nG : Nat}
    (htr : ∀ e, l.admits e → e.platform.stackTraces = false) (hNM : ∀ x ∈ NM, Bundle.fit x = true) (hlen : NM.length = 2) : xThr l D cl H0 V G WL HL SL NM EX ty0 sf host nG := by
  intro M p e R s m args below meth c C pc k a b nx hs h N0 S0 hok hN hS hRc hRs H locs ls lo hR hL hl
  obtain ⟨hx, hb, hml, hrt, hlk, hnm, hmeth, htab, hsf, hfr, hlo, hgood⟩ := id C
  simp only [xtok, Bool.and_eq_true, decide_eq_true_eq] at hok
  obtain ⟨⟨⟨⟨⟨⟨⟨⟨⟨⟨d0, d3⟩, d4⟩, d6⟩, d9⟩, o1⟩, o2⟩, o3⟩, o4⟩, o5⟩, o6⟩ := hok
  have o2 := Nat.eq_of_beq_eq_true o2
  have o3 := Nat.le_of_ble_eq_true o3
  have o4 := Nat.le_of_ble_eq_true o4
  subst o2
  split at o5
  · next C0 T0 N1 hc =>
    simp only [Bool.and_eq_true] at o5
    obtain ⟨⟨⟨⟨⟨p1, p2⟩, p3⟩, p4⟩, p5⟩, p6⟩ := o5
    have p1 := Nat.eq_of_beq_eq_true p1
    subst p1
    obtain ⟨sq, sq1, sq2⟩ := List.any_eq_true.mp o6
    simp only [Bool.and_eq_true, decide_eq_true_eq] at sq2
    obtain ⟨sq2, sq3⟩ := sq2
    have sq3 := Nat.eq_of_beq_eq_true sq3
    obtain ⟨qa, hqa⟩ := hsf.2.2.1 sq sq1
    intro T hT X
    dsimp only [xnew] at hRc hRs
    have X0 := x_rebase X (by omega) (by omega)
    generalize hs' : T.setFrames (.invoking m args :: below) = s' at X0
    have hvm' : s'.vm = T.vm := by rw [← hs']; rfl
    have hhp' : s'.heap = H := by rw [← hs', ← hT]; rfl
    have hW' : s.WarmedH s'.vm := by rw [hvm']; exact X.warmed
    have hsf' : xSF D cl H0 WL HL SL EX V sf s' := hsf.moved hW'
    have hts' : ∀ w ∈ WL, w.before args s' = true := fun w hw => hsf.1 w hw args s' hW'
    have hown' : s'.vm.findClass (xnm M).cls = some m.cls := by rw [hW'.alike.findClass]; exact findClass_of_methodNamed hnm
    have hKn := (hsf'.2.2.2.2.1).1 a _ hc
    have hempty : ∀ x ∈ c.exceptionTable.toList, covers x (pc + 9) = false := by
      rw [o1] at htab
      have : c.exceptionTable.toList = [] := by simpa using htab
      rw [this]
      intro x hx'
      cases hx'
    have hw : W p l e { frames := R.frames, cells := R.cells - (h.2.1 - N0), slots := R.slots - (h.2.2 - S0), locals := R.locals } s' m args below meth c H [] 0 0 (fun U => U.status = .running ∧ Ended U below (.threw H.size) ∧ s'.WarmedH U.vm ∧ s'.sameButNew ({ U with vm := s'.vm } : State) [] 1 6 ∧ ∃ ce, U.heap[H.size]? = some ce ∧ s'.vm.findClass C0 = some ce.cls ∧ ce.vm = .none) (F0 m pc ls []) := by
      refine W.newcK hx hb hown' (hts' _ (xin_mem p2)) (hts' _ (xin_mem p3)) (hts' _ (xin_mem p4)) rfl d0 (by show 0 + 1 ≤ R.cells - (h.2.1 - N0); omega) (by show 0 + 6 ≤ R.slots - (h.2.2 - S0); omega) hKn.2.1 rfl fun H1 kC hkC e1 z1 o1 => ?_
      refine lv_dup hx hb d3 rfl ?_
      refine va_ldcS hx hb hown' (tx := sq.2.2) (q := qa) ?_ d4 ?_
      · have := hqa s' hW'
        rw [sq2, sq3] at this
        exact this
      · intro U hU XU
        have hloc : 2 * (F0 m (pc + 6) ls (.ref qa :: .ref H.size :: .ref H.size :: [])).monitorRoom + ((Value.ref H.size :: ([] : List Value)).map fun v => v.category).sum + (13 * (NM.length + 1) + 42) ≤ R.locals := by
          rw [hlen]
          show 2 * 0 + 1 + (13 * (2 + 1) + 42) ≤ R.locals
          omega
        obtain ⟨U', u1, u2, u3, u4, u5, ce, u6, u7⟩ := XU.ctorThrowS (names := NM) hx (htr e X.admits) hown' p5 hNM (fun w hw => by
          have := List.all_eq_true.mp p6 w hw
          simp only [Bool.or_eq_true, decide_eq_true_eq] at this
          rcases this with z | z
          · exact hts' w z
          · exact hsf.2.1 w z args s' hW' (fun q hq => by rw [hhp']; exact hR.2.2.1 q hq)) (fun x hx => by cases hx) hKn.2.1 hkC (a := H.size) (by rw [hU]; exact e1) (by rw [hhp']; exact Nat.le_refl _) (msg := .ref qa) rfl
          (g := F0 m (pc + 6) ls (.ref qa :: .ref H.size :: .ref H.size :: [])) rfl (by rw [hml]; exact hL.1) rfl rfl (rest := []) rfl (by rw [hb]; exact d6) (by rw [hb]; exact d9) hempty (by rw [hlen]; show 2 + 3 < R.frames; omega) hloc hlk
        exact ⟨U', u1, u2, u3, u4, u5, ce, u6, u7.cls, u7.vm⟩
    obtain ⟨t, t1, t2, t3, t4, t5, ce, t6, t7, t8⟩ := hw T hT X0
    refine ⟨t, t1, .threw H.size, t2, t3, ⟨by rw [hR.1], ?_⟩, ?_, State.WarmedH.trans X.warmed (State.WarmedH.of_rootvm hvm'.symm t4), locs, ?_, hl⟩
    · simp [xnew]
    · have hold : ∀ q : Nat, q < H.size → t.heap[q]? = H[q]? := by
        intro q hq
        obtain ⟨v1, v2, v3, v4, v5, v6⟩ := t5
        have hq0 : s'.heap[q]? = some H[q] := by rw [hhp']; exact Array.getElem?_eq_getElem hq
        obtain ⟨c', w1, w2, w3, w4⟩ := v6 q _ hq0
        have w1 : t.heap[q]? = some c' := w1
        have hsl : c'.slots = (H[q]).slots := Array.ext_getElem? (fun i => w4 i (by simp))
        rw [w1, w2, hsl, Array.getElem?_eq_getElem hq]
      have hsz : t.heap.size = H.size + 1 := by
        obtain ⟨v1, v2, v3, v4, v5, v6⟩ := t5
        have a1 : t.heap.size ≤ s'.heap.size + 1 := v3
        rw [hhp'] at a1
        have a2 := (Array.getElem?_eq_some_iff.mp t6).1
        omega
      refine hR.new ?_ hsz hold
      refine ⟨_, hc, ce, t6, ?_, t8, fun j hj => absurd hj (Nat.not_lt_zero _)⟩
      have := hKn.2.1
      exact Option.some.inj (t7.symm.trans this)
    · have hTs : T.sameButNew ({ t with vm := T.vm } : State) [] 1 6 := by
        obtain ⟨v1, v2, v3, v4, v5, v6⟩ := t5
        rw [hhp'] at v2 v3 v4 v5 v6
        have hv : s'.slotsUsed = T.slotsUsed := by rw [← hs']; rfl
        rw [hv] at v4
        rw [← hT] at v2 v3 v4 v5 v6
        refine ⟨?_, v2, v3, v4, v5, v6⟩
        rw [hvm', ← hs', State.setFrames_setFrames] at v1
        exact v1
      have := X.same.trans (hTs.setVm s.vm)
      rw [List.append_nil] at this
      have e1 : (xnew h (xO' a []) 6).2.1 - N0 = h.2.1 - N0 + 1 := by dsimp only [xnew]; omega
      have e2 : (xnew h (xO' a []) 6).2.2 - S0 = h.2.2 - S0 + 6 := by dsimp only [xnew]; omega
      rw [e1, e2]
      exact this
  · cases o5
