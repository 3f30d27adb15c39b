/-! THE CLAIM OUT OF ONE WALK OF THE LAW'S BODY -/
def R_law : String := "PrePressRoomLaw"
def lw_P (b : Addr) (xs : List Int32) (args : Array Value) (s : State) : Prop := args = #[.ref b] ∧ s.IntsAt b xs ∧ xs.length ≤ 3584 ∧ (Jvm.Cond.and given_1 narrow_1).before args s = true
def lw_Q (_ : Array Value) (s : State) (o : Outcome) (t : State) : Prop := o = .returned (some (.int 1)) ∧ Framed s o t [] 601024 7293034
def lw_Z (below : List Frame) (a : Array Value) (s : State) : State → Prop := fun t => ∃ o, t.status = .running ∧ Ended t below o ∧ lw_Q a s o t
theorem whole_start {p : Program} {e : Env} {s : State} {m : MethodId} {below : List Frame} {meth : Method} {c : Code} (l : Launch) (htr : ∀ e, l.admits e → e.platform.stackTraces = false) {b L : Nat} {xs : Nat → Int32} (hL : L ≤ 3584)
    (hx : p.tables.exec = Jvm.exec) (hcw : (Cond.code x code maxLocals ret).before #[Value.ref b] s = true) (hnm : s.methodNamed? x = some m) (hmt : s.vm.method? m = some meth) (hcd : meth.code = some c) (hts : ∀ w ∈ lw_tbl, w.before #[Value.ref b] s = true) (hX : va_X b L xs s s.heap) (hgv : (Jvm.Cond.and given_1 narrow_1).before #[Value.ref b] s = true) :
    W p l e room_1 s m #[Value.ref b] below meth c s.heap [] 0 0 (lw_Z below #[Value.ref b] s) (entryFrame m ([Value.ref b] : List Value).toArray 7) := by
  have hwd : xWd xWL s := wd_of (L := Cond.code x code maxLocals ret :: lw_tbl) (a := #[Value.ref b]) (List.forall_mem_cons.mpr ⟨hcw, hts⟩)
  have hw0 : ∀ w ∈ xWL, w.before #[Value.ref b] s = true := fun w hw => hwd w hw _ s (State.WarmedH.refl s)
  obtain ⟨D, K⟩ := k_at hw0 hts
  obtain ⟨a, wc, we, wh, wa, wv, ws, wt⟩ := wt_at hgv
  obtain ⟨scr, sh, sa, sv, ss, st⟩ := hX
  obtain ⟨mk, methZ, cZ, q1, q2, q3, q4, q5, q6, q7, q8, -⟩ := x_mfacts (Z := m_Law_law) h_Law_law hwd
  have em : mk = m := Option.some.inj (q1.symm.trans hnm)
  subst em
  have eM : methZ = meth := Option.some.inj (q2.symm.trans hmt)
  subst eM
  have eC : cZ = c := Option.some.inj (q3.symm.trans hcd)
  subst eC
  have bN : b < s.heap.size := (Array.getElem?_eq_some_iff.mp sh).1
  have aN : a < s.heap.size := (Array.getElem?_eq_some_iff.mp wh).1
  obtain ⟨V, hV⟩ : ∃ V : Nat → Value, V 0 = .ref a := ⟨fun _ => .ref a, rfl⟩
  have SF := sf_at (V := V) hwd K hts hgv hV we
  have CX : xCx D xcl s.heap xWL xHL xSL xNM xEX V xty0 xsf "PrePressRoom" xnG xG m_Law_law p room_1 s mk methZ cZ := ⟨hx, q4, q5, q6, q7, q1, q2, q8, SF, by decide, by decide, g_Law_law⟩
  obtain ⟨Wf, hrun, hfix⟩ := xw_ex V xF0 xG
  have hR : ∀ M f h r, Wf M f h = some r → xR0 h r.2 := fun M f h r e => by
    obtain ⟨n, hn⟩ := hrun M f h r e
    exact xW_ro n M f h r hn
  have go : ∀ (B : Nat → Int) (h0 : xH), (∀ j, j < 8 → B j = B0 j) → h0.2 = (s.heap.size, 0) → h0.1 b = some (jA 3 L (fun j => (xs j).toInt)) → h0.1 a = some (jA 3 8 B) → (∀ q e, h0.1 q = some e → (q = b ∧ e = jA 3 L (fun j => (xs j).toInt)) ∨ (q = a ∧ e = jA 3 8 B)) → (∀ j : Nat, j < 8 → wc.slots[j]? = some (.int (Int32.ofInt (B j)))) →
      W p l e room_1 s mk #[Value.ref b] below methZ cZ s.heap [] 0 0 (lw_Z below #[Value.ref b] s) (entryFrame mk ([Value.ref b] : List Value).toArray 7) := by
    intro B h0 hB h02 hb ha hall hBw
    have e1 : h0.2.1 = s.heap.size := congrArg Prod.fst h02
    have e2 : h0.2.2 = 0 := congrArg Prod.snd h02
    obtain ⟨hf, f1, f2, f3⟩ := law_all hfix hR (h := h0) (b := b) (a := a) (n := L) (F := fun j => (xs j).toInt) (B := B) (by rw [e1]; exact bN) (by rw [e1]; exact aN) hV hB hb ha (fun k => ⟨Int32.le_toInt (xs k), Int32.toInt_lt (xs k)⟩) (by omega)
    obtain ⟨n, hn⟩ := hrun _ _ _ _ f1
    have HR : xHR D xcl s.heap s h0 s.heap := by
      refine ⟨e1.symm, Nat.le_refl _, fun _ _ => rfl, fun q e he => ?_⟩
      rcases hall q e he with ⟨rfl, rfl⟩ | ⟨rfl, rfl⟩
      · refine ⟨Or.inl ⟨rfl, scr, sh, sa, sv, ⟨Nat.le_of_eq ss.symm, by rw [ss]⟩, fun j hj => ?_⟩, Or.inl rfl⟩
        rw [st j hj]
        show some (Value.int (xs j)) = some (Value.int (Int32.ofInt (xs j).toInt))
        rw [Int32.ofInt_toInt]
      · exact ⟨Or.inl ⟨rfl, wc, wh, wa, wv, ws, fun j hj => hBw j hj⟩, Or.inl rfl⟩
    have lx := xl_entry [Value.ref b] (n := 7) (Nat.le_of_ble_eq_true rfl)
    have snd := x_snd (D := D) (H0 := s.heap) (V := V) htr n m_Law_law _ h0 hf (.inl (some (jI 1))) hn p e room_1 s mk #[Value.ref b] below methZ cZ CX s.heap.size 0 (by omega) (by omega) (show hf.2.1 - s.heap.size ≤ 601024 by omega) (show hf.2.2 - 0 ≤ 7293034 by omega) s.heap [] _ HR lx (fun q hq => by cases hq)
    rw [e1, e2, Nat.sub_self] at snd
    rw [lg_entry_eq]
    refine xW_mono (fun t ht => ?_) snd
    obtain ⟨oc, z1, z2, z3, z4, z5, Lc, z6, z7⟩ := ht
    have z3' : oc = .returned (some (jI 1)) := z3
    subst z3'
    exact ⟨_, z1, z2, rfl, ⟨_, rfl⟩, z5, sbn_nil z6 z7 (by omega) (by omega)⟩
  by_cases eab : a = b
  · subst eab
    have ecell : wc = scr := Option.some.inj (wh.symm.trans sh)
    subst ecell
    have L8 : L = 8 := by
      have h1 := ws.2
      rw [ss] at h1
      have h2 : Int32.ofNat L = Int32.ofNat 8 := h1
      have h3 := congrArg Int32.toInt h2
      rw [Int32.toInt_ofNat_of_lt (by omega), Int32.toInt_ofNat_of_lt (by omega)] at h3
      omega
    subst L8
    have hv : ∀ j : Nat, j < 8 → (xs j).toInt = B0 j := fun j hj => by
      have := (st j hj).symm.trans (wt j hj)
      have e := Value.int.inj (Option.some.inj this)
      rw [e]
      refine Int32.toInt_ofInt_of_le ?_ ?_ <;> (unfold B0; repeat' split) <;> decide
    refine go (fun j => (xs j).toInt) (fun q => if q = a then some (jA 3 8 (fun j => (xs j).toInt)) else none, s.heap.size, 0) hv rfl (if_pos rfl) (if_pos rfl) (fun q e he => ?_) (fun j hj => ?_)
    · by_cases c : q = a
      · subst c
        left
        refine ⟨rfl, ?_⟩
        have : (if q = q then some (jA 3 8 (fun j => (xs j).toInt)) else none) = some e := he
        rw [if_pos rfl] at this
        exact (Option.some.inj this).symm
      · have : (if q = a then some (jA 3 8 (fun j => (xs j).toInt)) else none) = some e := he
        rw [if_neg c] at this
        cases this
    · rw [st j hj, Int32.ofInt_toInt]
  · refine go B0 (fun q => if q = b then some (jA 3 L (fun j => (xs j).toInt)) else if q = a then some (jA 3 8 B0) else none, s.heap.size, 0) (fun _ _ => rfl) rfl (if_pos rfl) ?_ (fun q e he => ?_) wt
    · show (if a = b then some (jA 3 L (fun j => (xs j).toInt)) else if a = a then some (jA 3 8 B0) else none) = _
      rw [if_neg eab, if_pos rfl]
    · have he' : (if q = b then some (jA 3 L (fun j => (xs j).toInt)) else if q = a then some (jA 3 8 B0) else none) = some e := he
      by_cases c : q = b
      · rw [if_pos c] at he'
        exact Or.inl ⟨c, (Option.some.inj he').symm⟩
      · rw [if_neg c] at he'
        by_cases c2 : q = a
        · rw [if_pos c2] at he'
          exact Or.inr ⟨c2, (Option.some.inj he').symm⟩
        · rw [if_neg c2] at he'
          cases he'
