theorem ao_moved {t : FieldType} {u U : State} {a a' : Array Value} (hvm : u.vm.Alike U.vm) (h : (Cond.arrayOver t).before a u = true) : (Cond.arrayOver t).before a' U = true := by
  cases t with
  | object n => exact va_AO.use (va_AO.moved hvm (va_AO.of h))
  | array t' =>
    unfold Cond.before at *
    simp only [Cond.holds, Cond.value, beq_iff_eq] at *
    obtain ⟨comp, h1, h⟩ := Option.bind_eq_some_iff.mp h
    obtain ⟨c, h2, h⟩ := Option.bind_eq_some_iff.mp h
    obtain ⟨k, h3, h4⟩ := Option.map_eq_some_iff.mp h
    obtain ⟨k', hk', he⟩ := hvm.2.2 _ _ h3
    have eb : (U.vm.bare.classes.findIdx? fun (x : Class) => match x.kind with | .array component _ => component == comp | _ => false) = (u.vm.bare.classes.findIdx? fun (x : Class) => match x.kind with | .array component _ => component == comp | _ => false) := by
      first | rw [hvm.bare_eq] | rw [← hvm.bare_eq]
    have h2' : (U.vm.classes.findIdx? fun (x : Class) => match x.kind with | .array component _ => component == comp | _ => false) = some c := (va_idx_bare U.vm comp).symm.trans (eb.trans ((va_idx_bare u.vm comp).trans h2))
    refine Option.bind_eq_some_iff.mpr ⟨comp, by rw [hvm.findClass]; exact h1, Option.bind_eq_some_iff.mpr ⟨c, h2', Option.map_eq_some_iff.mpr ⟨k', hk', ?_⟩⟩⟩
    have ek : k'.kind = k.kind := by rw [he]
    rw [ek, hvm.findClass]
    exact h4
  | _ => simp [Cond.before, Cond.holds, Cond.value] at h
theorem wd_of {L : List Cond} {s : State} {a : Array Value} (h : ∀ w ∈ L, w.before a s = true) : xWd (L.map (fun w => if xst w then w else .tt)) s := by
  intro w hw a' U hU
  obtain ⟨w0, h0, e⟩ := List.mem_map.mp hw
  have hb := h w0 h0
  by_cases c : xst w0 = true
  · rw [if_pos c] at e
    subst e
    by_cases c2 : (w0.onTables && w0.keepsH) = true
    · rw [Bool.and_eq_true] at c2
      exact Cond.onTables_warmH (T := U) hU c2.1 c2.2 hb
    · unfold xst at c
      rw [Bool.or_eq_true] at c
      rcases c with c | c
      · exact absurd c c2
      · cases w0 with
        | arrayClass t => exact Cond.holds_shiftedH (args := a) (o := none) (State.Shifted.of_warmed hU) (fun m x hx => by rw [hU.hostNow]; exact hx) (.arrayClass t) [] rfl hb
        | arrayOver t => exact ao_moved hU.alike hb
        | castable x y => exact va_Nw.use rfl (va_Nw.warmC hU (va_Nw.of rfl hb))
        | declares x => exact va_Nw.use rfl (va_Nw.warmD hU (va_Nw.of rfl hb))
        | _ => simp at c
  · rw [if_neg c] at e
    subst e
    rfl
theorem sbn_nil {s t : State} {L : List Loc} {k n k' n' : Nat} (h : s.sameButNew t L k n) (hL : ∀ q ∈ L, s.heap.size ≤ q.base) (hk : k ≤ k') (hn : n ≤ n') : s.sameButNew t [] k' n' := by
  obtain ⟨h1, h2, h3, h4, h5, h6⟩ := h
  refine ⟨h1, h2, by omega, h4, by omega, fun a c hc => ?_⟩
  obtain ⟨c', a1, a2, a3, a4⟩ := h6 a c hc
  refine ⟨c', a1, a2, a3, fun i _ => a4 i (fun hm => ?_)⟩
  have := hL _ hm
  have := (Array.getElem?_eq_some_iff.mp hc).1
  simp only at *
  omega
theorem ls_heap {C n d : String} {s U : State} {a a' : Array Value} (hU : s.WarmedH U.vm) (hq : ∀ q : Nat, q < s.heap.size → U.heap[q]? = s.heap[q]?) (h : (Cond.laysStatic C n d).before a s = true) : (Cond.laysStatic C n d).before a' U = true := by
  have h1 : (Cond.laysStatic C n d).before a (s.setVm U.vm) = true := Cond.holds_shiftedH (args := a) (o := none) (State.Shifted.of_warmed hU) (fun m x hx => by rw [hU.hostNow]; exact hx) _ [] rfl h
  obtain ⟨c, k, i, f, ad, cell, hc, hi, hst, ha, hcell, hs, hcls, hlt, hty⟩ := Cond.laysStatic_spec h1
  have hcell0 : s.heap[ad]? = some cell := hcell
  have hcell' : U.heap[ad]? = some cell := by rw [hq ad (Array.getElem?_eq_some_iff.mp hcell0).1]; exact hcell0
  have hc' : U.vm.findClass C = some c := hc
  have hi' : U.fieldFound? C n d = some (c, k, i, f) := hi
  simp only [Cond.before, Cond.holds, Cond.value]
  rw [hc', hi']
  simp [hst, ha, hcell', hs, hcls, hlt, hty]
theorem ir_heap {C n d : String} {s U : State} {a a' : Array Value} (hU : s.WarmedH U.vm) (hq : ∀ q : Nat, q < s.heap.size → U.heap[q]? = s.heap[q]?) (hl : (Cond.laysStatic C n d).before a s = true) (hini : (Cond.initialized C).before a s = true) (h : (Cond.isRef (.static C n d)).before a s = true) : (Cond.isRef (.static C n d)).before a' U = true := by
  have z := va_Zqof (A := fun q => s.heap.size ≤ q) hl hini h (fun q hq hn => by omega)
  have fin : ∀ v : Value, v.isRef = true → va_Z C n d v (fun q => s.heap.size ≤ q) s s.heap → (Cond.isRef (.static C n d)).before a' U = true := by
    intro v hv z
    have z2 := va_Z.kept (H1 := U.heap) (va_Z.moved hU.alike z) (fun q h1 _ => hq q h1)
    obtain ⟨cf, kf, fi, f, ad, cell, e1, e2, e3, e4, e5, e6, e7, e8⟩ := z2
    have ev : (Term.static C n d).eval a' U none [] U = some v := Term.static_eval e1 e2 e4 e5 e6 e7
    simp only [Cond.before, Cond.holds, Cond.value, ev]
    cases v <;> simp_all [Value.isRef]
  rcases z with z | ⟨t, z⟩
  · exact fin .null rfl z
  · exact fin (.ref t) rfl z
theorem eq_int {t : Term} {args : Array Value} {s : State} {z : Int32} (h : (Cond.eq t (.int z)).before args s = true) : t.eval args s none [] s = some (.int z) := by
  cases hv : t.eval args s none [] s with
  | none => simp [Cond.before, Cond.holds, Cond.value, hv] at h
  | some w =>
    have hz : (Term.int z).eval args s none [] s = some (.int z) := rfl
    simp only [Cond.before, Cond.holds, Cond.value, hv, hz] at h
    cases w <;> simp_all
def upC (vm : Vm) : Nat → ClassId → Option ClassId
  | 0, c => some c
  | n + 1, c => match vm.classes[c]? with
    | some k => (match k.super with | some p => upC vm n p | none => none)
    | none => none
theorem sub_up (vm : Vm) (t : ClassId) : ∀ (n : Nat) (c : ClassId), vm.isSubclassAux n c t = true ↔ ∃ i, i < n ∧ upC vm i c = some t
  | 0, c => by simp [Vm.isSubclassAux]
  | n + 1, c => by
    simp only [Vm.isSubclassAux, Bool.or_eq_true, beq_iff_eq]
    constructor
    · rintro (e | e)
      · exact ⟨0, by omega, by rw [e]; rfl⟩
      · cases hk : vm.classes[c]? with
        | none => rw [hk] at e; simp at e
        | some k =>
          rw [hk] at e
          cases hs : k.super with
          | none => simp only [hs] at e; simp at e
          | some p =>
            simp only [hs] at e
            obtain ⟨i, h1, h2⟩ := (sub_up vm t n p).mp e
            exact ⟨i + 1, by omega, by simp only [upC, hk, hs]; exact h2⟩
    · rintro ⟨i, h1, h2⟩
      cases i with
      | zero => left; exact Option.some.inj h2
      | succ i =>
        right
        simp only [upC] at h2
        cases hk : vm.classes[c]? with
        | none => rw [hk] at h2; simp at h2
        | some k =>
          rw [hk] at h2
          cases hs : k.super with
          | none => simp only [hs] at h2; simp at h2
          | some p =>
            simp only [hs] at h2 ⊢
            exact (sub_up vm t n p).mpr ⟨i, by omega, h2⟩
theorem up_step {vm : Vm} {c p : ClassId} {k : Class} (hk : vm.classes[c]? = some k) (hs : k.super = some p) (n : Nat) : upC vm (n + 1) c = upC vm n p := by simp only [upC, hk, hs]
theorem up_add {vm : Vm} : ∀ (i j : Nat) (c d : ClassId), upC vm i c = some d → upC vm (i + j) c = upC vm j d
  | 0, j, c, d, h => by rw [Nat.zero_add, Option.some.inj h]
  | i + 1, j, c, d, h => by
    rw [show i + 1 + j = (i + j) + 1 by omega]
    simp only [upC] at h ⊢
    cases hk : vm.classes[c]? with
    | none => rw [hk] at h; simp at h
    | some k =>
      rw [hk] at h
      cases hs : k.super with
      | none => simp only [hs] at h; simp at h
      | some p => simp only [hs] at h ⊢; exact up_add i j p d h
theorem up_per {vm : Vm} {R : ClassId} {q : Nat} (h : upC vm q R = some R) : ∀ (k r : Nat), upC vm (q * k + r) R = upC vm r R
  | 0, r => by rw [Nat.mul_zero, Nat.zero_add]
  | k + 1, r => by
    rw [show q * (k + 1) + r = q + (q * k + r) by rw [Nat.mul_succ]; omega, up_add q (q * k + r) R R h]
    exact up_per h k r
theorem no_sub {vm : Vm} {c8 c9 R Th O P : ClassId} {k8 k9 kT kP : Class} (h8 : vm.classes[c8]? = some k8) (s8 : k8.super = some R) (h9 : vm.classes[c9]? = some k9) (s9 : k9.super = some R) (hT : vm.classes[Th]? = some kT) (sT : kT.super = some O) (hP : vm.classes[P]? = some kP) (sP : kP.super = some O)
    (n89 : c8 ≠ c9) (n8T : c8 ≠ Th) (n9T : Th ≠ c9) (a1 : vm.isSubclass c8 Th = true) (a2 : vm.isSubclass P c9 = false) : vm.isSubclass c8 c9 = false := by
  apply Bool.eq_false_iff.mpr
  intro h
  obtain ⟨p, p1, p2⟩ := (sub_up vm c9 _ c8).mp h
  obtain ⟨t, t1, t2⟩ := (sub_up vm Th _ c8).mp a1
  cases p with
  | zero => exact n89 (Option.some.inj p2)
  | succ p =>
    cases t with
    | zero => exact n8T (Option.some.inj t2)
    | succ t =>
      rw [up_step h8 s8] at p2 t2
      have per : upC vm (p + 1) R = some R := by rw [up_add p 1 R c9 p2, up_step h9 s9]; rfl
      have tm : upC vm (t % (p + 1)) R = some Th := by
        rw [← up_per per (t / (p + 1)) (t % (p + 1)), Nat.div_add_mod]; exact t2
      have lt := Nat.mod_lt t (show 0 < p + 1 by omega)
      have ne : t % (p + 1) ≠ p := fun e => by
        rw [e, p2] at tm
        exact n9T (Option.some.inj tm).symm
      have r1 := up_add (t % (p + 1)) (p - t % (p + 1)) R Th tm
      rw [show t % (p + 1) + (p - t % (p + 1)) = p by omega, p2] at r1
      rw [show p - t % (p + 1) = (p - t % (p + 1) - 1) + 1 by omega, up_step hT sT] at r1
      have : vm.isSubclass P c9 = true := (sub_up vm c9 _ P).mpr ⟨p - t % (p + 1) - 1 + 1, by omega, by rw [up_step hP sP]; exact r1.symm⟩
      rw [a2] at this
      cases this
theorem fc_ne {vm : Vm} {A B : String} {c d : ClassId} (h1 : vm.findClass A = some c) (h2 : vm.findClass B = some d) (h : A ≠ B) : c ≠ d := by
  intro e
  subst e
  obtain ⟨k, k1, k2⟩ := Vm.findClass_spec h1
  obtain ⟨k', k1', k2'⟩ := Vm.findClass_spec h2
  rw [k1] at k1'
  cases k1'
  exact h (k2.symm.trans k2')
theorem asg_sub {vm : Vm} {c t : ClassId} {kc kt : Class} (n : c ≠ t) (hc : vm.classes[c]? = some kc) (ht : vm.classes[t]? = some kt) (oc : kc.kind = .ordinary) (ot : kt.kind = .ordinary) (ni : kt.isInterface = false) : vm.assignable c t = vm.isSubclass c t := by
  unfold Vm.assignable
  simp only [Vm.assignableAux, hc, ht, oc, ot, ni]
  simp [n]
theorem not_asg {s : State} {args : Array Value} {X Y : String} {cX cY : ClassId} (hX : s.vm.findClass X = some cX) (hY : s.vm.findClass Y = some cY) (nXY : X ≠ Y) (nXT : X ≠ "java/lang/Throwable") (nTY : "java/lang/Throwable" ≠ Y) (nPY : "PrePressRoom" ≠ Y) (sX : (Cond.superclass X "java/lang/RuntimeException").before args s = true) (sY : (Cond.superclass Y "java/lang/RuntimeException").before args s = true) (lX : (Cond.lays X "java/lang/Throwable" "cause" "Ljava/lang/Throwable;").before args s = true) (sT : (Cond.superclass "java/lang/Throwable" "java/lang/Object").before args s = true) (sP : (Cond.superclass "PrePressRoom" "java/lang/Object").before args s = true) (nP : (Cond.not (.castable "PrePressRoom" Y)).before args s = true) : s.vm.assignable cX cY = false := by
  obtain ⟨R, kX, kR, r1, r2, r3, r4, r5, r6, r7⟩ := Cond.superclass_spec hX sX
  obtain ⟨R', kY, kR', y1, y2, y3, y4, y5, y6, y7⟩ := Cond.superclass_spec hY sY
  have eR : R' = R := Option.some.inj (y1.symm.trans r1)
  subst eR
  obtain ⟨Th, g1, g2⟩ : ∃ Th, s.vm.findClass "java/lang/Throwable" = some Th ∧ s.vm.assignable cX Th = true := by
    simp only [Cond.before, Cond.holds, Cond.value, hX] at lX
    cases hf : s.fieldFound? "java/lang/Throwable" "cause" "Ljava/lang/Throwable;" with
    | none => simp [hf] at lX
    | some q =>
      obtain ⟨c', k', i, f⟩ := q
      simp only [hf, r2, Option.map_some, beq_iff_eq, Option.some.injEq, Bool.and_eq_true, decide_eq_true_eq] at lX
      exact ⟨c', lX.1.1.2, lX.1.1.1.2⟩
  obtain ⟨O, kT, kO, t1, t2, t3, t4, t5, t6, t7⟩ := Cond.superclass_spec g1 sT
  obtain ⟨cP, cY', f1, f2, f3⟩ := va_Nc.of nP
  have eY : cY' = cY := Option.some.inj (f2.symm.trans hY)
  subst eY
  obtain ⟨O', kP, kO', p1, p2, p3, p4, p5, p6, p7⟩ := Cond.superclass_spec f1 sP
  have eO : O' = O := Option.some.inj (p1.symm.trans t1)
  subst eO
  have a1 := isSubclass_of_assignable r2 t2 r5 t5 t7 g2
  have a2 : s.vm.isSubclass cP cY' = false := by rw [← asg_sub (fc_ne f1 f2 nPY) p2 y2 p5 y5 y7]; exact f3
  rw [asg_sub (fc_ne hX hY nXY) r2 y2 r5 y5 y7]
  exact no_sub r2 r4 y2 y4 t2 t4 p2 p4 (fc_ne hX hY nXY) (fc_ne hX g1 nXT) (fc_ne g1 hY nTY) a1 a2
