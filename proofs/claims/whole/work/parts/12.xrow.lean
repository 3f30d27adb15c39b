/-! the machine's steps at the heap, in the small machine's pictures -/
theorem xro3 {t : Nat} {a : vp_A} (h : t ≠ 3) : ¬ xro (.inl (t, a)) := h
section XW
variable {p : Program} {l : Launch} {e : Env} {R : Room} {s : State} {m : MethodId} {args : Array Value} {below : List Frame} {meth : Method} {c : Code} {H : Heap} {locs : List Loc} {cells slots : Nat} {Q : State → Prop}
variable {cc : ByteArray} {pc : Nat} {ls : Array Slot} {rest : List Value} {D : va_G} {cl : List vw_C} {H0 : Heap} {h : xH}
theorem xsz {U : State} (hR : xHR D cl H0 U h H) {o t n : Nat} {ct : (Nat → Int32) ⊕ (Nat → Int64) ⊕ (Nat → UInt32) ⊕ (Nat → UInt64) ⊕ (Nat → Option Nat)} (ho : h.1 o = some (.inl (t, n, ct))) :
    ∃ cell : Cell, H[o]? = some cell ∧ U.isArrayOf cell (xty cl t) ∧ cell.vm ≠ .unknown ∧ (n ≤ cell.slots.size ∧ cell.slots.size.toInt32 = Int32.ofNat n) ∧ ∀ j : Nat, j < n → cell.slots[j]? = some (xvl ct j) := (hR.2.2.2 o _ ho).1.arr
theorem xlocs {x : Nat} {i : Nat} (hl : ∀ q ∈ locs, H0.size ≤ q.base) (hx : H0.size ≤ x) : ∀ q ∈ locs ++ [(⟨x, i⟩ : Loc)], H0.size ≤ q.base := by
  intro q hq
  rcases List.mem_append.mp hq with h1 | h1
  · exact hl q h1
  · rw [List.mem_singleton.mp h1]; exact hx
theorem xw_iald (hx : p.tables.exec = Jvm.exec) (hb : c.code = cc) (hR : xHR D cl H0 s h H) {o t n : Nat} {g : Nat → Int32} {j : Int32} (ho : h.1 o = some (.inl (t, n, .inl g))) (ht : t = 0 ∨ t = 3) (hj : ¬ (j < 0 ∨ n ≤ j.toNatClampNeg)) (hd : decode cc pc = .ok (.iaload, 1))
    (kk : W p l e R s m args below meth c H locs cells slots Q (F0 m (pc + 1) ls (.int (g j.toNatClampNeg) :: rest))) : W p l e R s m args below meth c H locs cells slots Q (F0 m pc ls (.int j :: .ref o :: rest)) := by
  obtain ⟨cell, h1, h2, h3, h4, h5⟩ := xsz hR ho
  have hty : xty cl t = .int := by rcases ht with rfl | rfl <;> rfl
  rw [hty] at h2
  exact W.iald (v := .int (g j.toNatClampNeg)) hx hb h1 h2 h3 (fun z => hj (z.imp id (fun y => Nat.le_trans h4.1 y))) (h5 _ (by omega)) rfl rfl hd kk
theorem xw_zald (hx : p.tables.exec = Jvm.exec) (hb : c.code = cc) (hR : xHR D cl H0 s h H) {o n : Nat} {g : Nat → Int32} {j : Int32} (ho : h.1 o = some (.inl (2, n, .inl g))) (hj : ¬ (j < 0 ∨ n ≤ j.toNatClampNeg)) (hd : decode cc pc = .ok (.baload, 1))
    (kk : W p l e R s m args below meth c H locs cells slots Q (F0 m (pc + 1) ls (.int (g j.toNatClampNeg) :: rest))) : W p l e R s m args below meth c H locs cells slots Q (F0 m pc ls (.int j :: .ref o :: rest)) := by
  obtain ⟨cell, h1, h2, h3, h4, h5⟩ := xsz hR ho
  exact W.zald (v := .int (g j.toNatClampNeg)) hx hb h1 h2 h3 (fun z => hj (z.imp id (fun y => Nat.le_trans h4.1 y))) (h5 _ (by omega)) rfl rfl hd kk
theorem xw_lald (hx : p.tables.exec = Jvm.exec) (hb : c.code = cc) (hR : xHR D cl H0 s h H) {o n : Nat} {g : Nat → Int64} {j : Int32} (ho : h.1 o = some (.inl (1, n, .inr (.inl g)))) (hj : ¬ (j < 0 ∨ n ≤ j.toNatClampNeg)) (hd : decode cc pc = .ok (.laload, 1))
    (kk : W p l e R s m args below meth c H locs cells slots Q (F0 m (pc + 1) ls (.long (g j.toNatClampNeg) :: rest))) : W p l e R s m args below meth c H locs cells slots Q (F0 m pc ls (.int j :: .ref o :: rest)) := by
  obtain ⟨cell, h1, h2, h3, h4, h5⟩ := xsz hR ho
  exact W.lald (v := .long (g j.toNatClampNeg)) hx hb h1 h2 h3 (fun z => hj (z.imp id (fun y => Nat.le_trans h4.1 y))) (h5 _ (by omega)) rfl rfl hd kk
theorem xty_ref {t : Nat} (ht : 4 ≤ t) : (xty cl t).isReference = true := by
  obtain ⟨k, rfl⟩ : ∃ k, t = 4 + k := ⟨t - 4, by omega⟩
  cases k with
  | zero => rfl
  | succ k => rw [show 4 + (k + 1) = k + 5 by omega]; rfl
theorem xw_aald (hx : p.tables.exec = Jvm.exec) (hb : c.code = cc) (hR : xHR D cl H0 s h H) {o t n w : Nat} {g : Nat → Option Nat} {j : Int32} (ho : h.1 o = some (.inl (t, n, .inr (.inr (.inr (.inr g)))))) (ht : 4 ≤ t) (hj : ¬ (j < 0 ∨ n ≤ j.toNatClampNeg)) (hw : g j.toNatClampNeg = some w) (hd : decode cc pc = .ok (.aaload, 1))
    (kk : W p l e R s m args below meth c H locs cells slots Q (F0 m (pc + 1) ls (.ref w :: rest))) : W p l e R s m args below meth c H locs cells slots Q (F0 m pc ls (.int j :: .ref o :: rest)) := by
  obtain ⟨cell, h1, h2, h3, h4, h5⟩ := xsz hR ho
  refine W.aald (v := .ref w) hx hb h1 h2 (xty_ref ht) h3 (fun z => hj (z.imp id (fun y => Nat.le_trans h4.1 y))) ?_ rfl rfl hd kk
  rw [h5 _ (by omega)]
  show some (va_rf (g j.toNatClampNeg)) = _
  rw [hw]
  rfl
theorem xw_alen (hx : p.tables.exec = Jvm.exec) (hb : c.code = cc) (hR : xHR D cl H0 s h H) {o t n : Nat} {ct : (Nat → Int32) ⊕ (Nat → Int64) ⊕ (Nat → UInt32) ⊕ (Nat → UInt64) ⊕ (Nat → Option Nat)} (ho : h.1 o = some (.inl (t, n, ct))) (hd : decode cc pc = .ok (.arraylength, 1))
    (kk : W p l e R s m args below meth c H locs cells slots Q (F0 m (pc + 1) ls (.int (Int32.ofNat n) :: rest))) : W p l e R s m args below meth c H locs cells slots Q (F0 m pc ls (.ref o :: rest)) := by
  obtain ⟨cell, h1, h2, h3, h4, h5⟩ := xsz hR ho
  exact W.alen (n := Int32.ofNat n) hx hb h1 h2 h4.2 rfl rfl hd kk
theorem xst_arr {U : State} {H1 : Heap} {t n o : Nat} {ct ct1 : (Nat → Int32) ⊕ (Nat → Int64) ⊕ (Nat → UInt32) ⊕ (Nat → UInt64) ⊕ (Nat → Option Nat)} {k : Nat} {x : Value} (hR : xHR D cl H0 U h H) (ho : h.1 o = some (.inl (t, n, ct))) (ht : t ≠ 3)
    (hc : ∀ cA : ClassId, H[o]? = some (arrV cA n (xvl ct)) → H1[o]? = some ((arrV cA n (xvl ct)).setSlot k x)) (hv : updV (xvl ct) k x = xvl ct1) (z : H1.size = H.size) (oq : ∀ q : Nat, q ≠ o → H1[q]? = H[q]?) : xHR D cl H0 U (xset h o (xA t n ct1)) H1 := by
  refine hR.set ho (fun z => ht z) ?_ z oq
  rcases (hR.2.2.2 o _ ho).1 with ⟨h0, -⟩ | ⟨-, cA, h1, h2, h3⟩
  · exact absurd h0 ht
  · refine Or.inr ⟨ht, cA, ?_, h2, h3⟩
    have := hc cA h1
    rw [arrV_store, hv] at this
    exact this
theorem xw_iast (hx : p.tables.exec = Jvm.exec) (hb : c.code = cc) (hR : xHR D cl H0 s h H) (hl : ∀ q ∈ locs, H0.size ≤ q.base) {o n : Nat} {g : Nat → Int32} {j x : Int32} (ho : h.1 o = some (.inl (0, n, .inl g))) (hj : ¬ (j < 0 ∨ n ≤ j.toNatClampNeg)) (hd : decode cc pc = .ok (.iastore, 1))
    (kk : ∀ (H1 : Heap) (locs1 : List Loc), xHR D cl H0 s (xset h o (xA 0 n (xint (upd g j.toNatClampNeg x)))) H1 → (∀ q ∈ locs1, H0.size ≤ q.base) → W p l e R s m args below meth c H1 locs1 cells slots Q (F0 m (pc + 1) ls rest)) : W p l e R s m args below meth c H locs cells slots Q (F0 m pc ls (.int x :: .int j :: .ref o :: rest)) := by
  obtain ⟨cell, h1, h2, h3, h4, h5⟩ := xsz hR ho
  refine W.iast hx hb h1 h2 h3 (fun z => hj (z.imp id (fun y => Nat.le_trans h4.1 y))) rfl rfl hd fun H1 e1 z oq => ?_
  refine kk H1 _ (xst_arr (k := j.toNatClampNeg) (x := .int x) hR ho (by decide) (fun cA q => ?_) ?_ z oq) (xlocs hl (hR.old ho (xro3 (by decide))))
  · rw [e1]; rw [h1] at q; cases q; rfl
  · funext q
    by_cases hq : q = j.toNatClampNeg
    · subst hq; simp [updV, xvl, upd]
    · simp [updV, xvl, upd, hq]
theorem xw_zast (hx : p.tables.exec = Jvm.exec) (hb : c.code = cc) (hR : xHR D cl H0 s h H) (hl : ∀ q ∈ locs, H0.size ≤ q.base) {o n : Nat} {g : Nat → Int32} {j x : Int32} (ho : h.1 o = some (.inl (2, n, .inl g))) (hb2 : x = 0 ∨ x = 1) (hj : ¬ (j < 0 ∨ n ≤ j.toNatClampNeg)) (hd : decode cc pc = .ok (.bastore, 1))
    (kk : ∀ (H1 : Heap) (locs1 : List Loc), xHR D cl H0 s (xset h o (xA 2 n (xint (upd g j.toNatClampNeg x)))) H1 → (∀ q ∈ locs1, H0.size ≤ q.base) → W p l e R s m args below meth c H1 locs1 cells slots Q (F0 m (pc + 1) ls rest)) : W p l e R s m args below meth c H locs cells slots Q (F0 m pc ls (.int x :: .int j :: .ref o :: rest)) := by
  obtain ⟨cell, h1, h2, h3, h4, h5⟩ := xsz hR ho
  have hn : narrow .boolean (.int x) = .int x := by rcases hb2 with rfl | rfl <;> rfl
  refine W.zast hx hb h1 h2 h3 (fun z => hj (z.imp id (fun y => Nat.le_trans h4.1 y))) rfl rfl hd fun H1 e1 z oq => ?_
  refine kk H1 _ (xst_arr (k := j.toNatClampNeg) (x := .int x) hR ho (by decide) (fun cA q => ?_) ?_ z oq) (xlocs hl (hR.old ho (xro3 (by decide))))
  · rw [e1, hn]; rw [h1] at q; cases q; rfl
  · funext q
    by_cases hq : q = j.toNatClampNeg
    · subst hq; simp [updV, xvl, upd]
    · simp [updV, xvl, upd, hq]
theorem xw_last (hx : p.tables.exec = Jvm.exec) (hb : c.code = cc) (hR : xHR D cl H0 s h H) (hl : ∀ q ∈ locs, H0.size ≤ q.base) {o n : Nat} {g : Nat → Int64} {j : Int32} {x : Int64} (ho : h.1 o = some (.inl (1, n, .inr (.inl g)))) (hj : ¬ (j < 0 ∨ n ≤ j.toNatClampNeg)) (hd : decode cc pc = .ok (.lastore, 1))
    (kk : ∀ (H1 : Heap) (locs1 : List Loc), xHR D cl H0 s (xset h o (xA 1 n (xlng (vp_updL g j.toNatClampNeg x)))) H1 → (∀ q ∈ locs1, H0.size ≤ q.base) → W p l e R s m args below meth c H1 locs1 cells slots Q (F0 m (pc + 1) ls rest)) : W p l e R s m args below meth c H locs cells slots Q (F0 m pc ls (.long x :: .int j :: .ref o :: rest)) := by
  obtain ⟨cell, h1, h2, h3, h4, h5⟩ := xsz hR ho
  refine W.last hx hb h1 h2 h3 (fun z => hj (z.imp id (fun y => Nat.le_trans h4.1 y))) rfl rfl hd fun H1 e1 z oq => ?_
  refine kk H1 _ (xst_arr (k := j.toNatClampNeg) (x := .long x) hR ho (by decide) (fun cA q => ?_) ?_ z oq) (xlocs hl (hR.old ho (xro3 (by decide))))
  · rw [e1]; rw [h1] at q; cases q; rfl
  · funext q
    by_cases hq : q = j.toNatClampNeg
    · subst hq; simp [updV, xvl, vp_updL]
    · simp [updV, xvl, vp_updL, hq]
theorem xw_aast (hx : p.tables.exec = Jvm.exec) (hb : c.code = cc) (hK : va_K D cl [] s) (hR : xHR D cl H0 s h H) (hl : ∀ q ∈ locs, H0.size ≤ q.base) {o n w k : Nat} {fs : List Value} {g : Nat → Option Nat} {j : Int32} (ho : h.1 o = some (.inl (5 + k, n, .inr (.inr (.inr (.inr g)))))) (hw : h.1 w = some (.inr (k, fs))) (hj : ¬ (j < 0 ∨ n ≤ j.toNatClampNeg)) (hd : decode cc pc = .ok (.aastore, 1))
    (kk : ∀ (H1 : Heap) (locs1 : List Loc), xHR D cl H0 s (xset h o (xA (5 + k) n (xref (va_up g j.toNatClampNeg (some w))))) H1 → (∀ q ∈ locs1, H0.size ≤ q.base) → W p l e R s m args below meth c H1 locs1 cells slots Q (F0 m (pc + 1) ls rest)) : W p l e R s m args below meth c H locs cells slots Q (F0 m pc ls (.ref w :: .int j :: .ref o :: rest)) := by
  obtain ⟨r, hr, cellW, w1, w2, w3, -⟩ := (hR.2.2.2 w _ hw).1
  have hty : xty cl (5 + k) = .object r.1 := by
    rw [show 5 + k = k + 5 by omega]
    show FieldType.object ((cl[k]?.map (fun r => r.1)).getD "") = _
    rw [hr]; rfl
  obtain ⟨hcls, kC, hkC, hkind⟩ := (hK.1 k r hr).2
  rcases (hR.2.2.2 o _ ho).1 with ⟨h0, -⟩ | ⟨-, cA, h1, h2, h3⟩
  · have h0 : 5 + k = 3 := h0
    omega
  · have h1 : H[o]? = some (arrV cA n (xvl (xref g))) := h1
    have h3 : va_RA s cA (xty cl (5 + k)) := h3
    rw [hty] at h3
    obtain ⟨kA, comp, k1, k2, k3, -⟩ := h3
    have hcomp : comp = D.1 k := Option.some.inj (k3.symm.trans hcls)
    subst hcomp
    refine W.aast hx hb h1 (fun q z => by cases z) (fun z => by cases z) k1 k2 rfl hkC ⟨fun z => hj (Or.inl z), by rw [arrV_size]; omega⟩ w1 (fun q z => by rw [w3] at z; cases z) (by rw [w2]; exact hkC) (by rw [w2]; exact va_assign ⟨hcls, kC, hkC, hkind⟩) rfl rfl hd fun H1 e1 z oq => ?_
    refine kk H1 _ (xst_arr (k := j.toNatClampNeg) (x := .ref w) hR ho (by omega) (fun cA' q => ?_) ?_ z oq) (xlocs hl (hR.old ho (by show ¬ (5 + k = 3); omega)))
    · rw [e1]
      have q : H[o]? = some (arrV cA' n (xvl (xref g))) := q
      rw [h1] at q
      exact congrArg (fun z : Cell => some (z.setSlot j.toNatClampNeg (.ref w))) (Option.some.inj q)
    · funext q
      by_cases hq : q = j.toNatClampNeg
      · subst hq; simp [updV, xvl, va_up, va_rf]
      · simp [updV, xvl, va_up, hq]
theorem xw_get {WL : List Cond} (hx : p.tables.exec = Jvm.exec) (hb : c.code = cc) (hts : ∀ w ∈ WL, w.before args s = true) (hK : va_K D cl [] s) (hR : xHR D cl H0 s h H) {own C : String} {T : u_T} {N ci idx o : Nat} {fs : List Value} (hin : ∀ w ∈ u_ws C T N, w ∈ WL) (hown : s.vm.findClass own = some m.cls)
    (ho : h.1 o = some (.inr (ci, fs))) (hc : cl[ci]? = some (C, T, N)) {k : Nat} (hk : k < N) (hlink : (Cond.fieldLink own idx (T k).1 (T k).2.1 (T k).2.2.1).before args s = true) {v : Value} (hv : fs[k]? = some v) (hd : decode cc pc = .ok (.getfield idx, 3))
    (kk : W p l e R s m args below meth c H locs cells slots Q (F0 m (pc + 3) ls (v :: rest))) : W p l e R s m args below meth c H locs cells slots Q (F0 m pc ls (.ref o :: rest)) := by
  have hP : va_P D cl [(o, .inr (ci, fs))] H := by
    intro k q hq
    have hz : k < 1 := (List.getElem?_eq_some_iff.mp hq).1
    rw [show k = 0 by omega] at hq
    cases hq
    exact (hR.2.2.2 o _ ho).1
  exact va_get hx hb hts hin hown hK hP 0 rfl hc k hk hlink (fun _ z => z) hv hd kk
theorem xw_put {WL : List Cond} (hx : p.tables.exec = Jvm.exec) (hb : c.code = cc) (hts : ∀ w ∈ WL, w.before args s = true) (hK : va_K D cl [] s) (hR : xHR D cl H0 s h H) (hl : ∀ q ∈ locs, H0.size ≤ q.base) {own C : String} {T : u_T} {N ci idx o : Nat} {fs : List Value} (hin : ∀ w ∈ u_ws C T N, w ∈ WL)
    (ty0 : Nat → FieldType) (hty : ∀ k, k < N → parseFieldDescriptor (T k).2.2.1 = some (ty0 k)) (hnm : ∀ a, a < N → ∀ b, b < N → a ≠ b → (T a).2.1 ≠ (T b).2.1) (hown : s.vm.findClass own = some m.cls)
    (ho : h.1 o = some (.inr (ci, fs))) (hc : cl[ci]? = some (C, T, N)) {k : Nat} (hk : k < N) (hlink : (Cond.fieldLink own idx (T k).1 (T k).2.1 (T k).2.2.1).before args s = true)
    (hfin : (T k).2.2.2 = false ∨ ((T k).2.2.2 = true ∧ meth.name = "<init>" ∧ (T k).1 = own)) {v : Value} (hn : narrow (ty0 k) v = v) (hfit : fits (ty0 k) v = true) (hlen : k < fs.length) (hd : decode cc pc = .ok (.putfield idx, 3))
    (kk : ∀ (H1 : Heap) (locs1 : List Loc), xHR D cl H0 s (xset h o (xO' ci (xupd fs k v))) H1 → (∀ q ∈ locs1, H0.size ≤ q.base) → W p l e R s m args below meth c H1 locs1 cells slots Q (F0 m (pc + 3) ls rest)) : W p l e R s m args below meth c H locs cells slots Q (F0 m pc ls (v :: .ref o :: rest)) := by
  have hap := va_apart (own := own) hts hin ty0 hty hnm hK hc
  obtain ⟨r, h1, cell, q1, q2, q3, q4⟩ := (hR.2.2.2 o _ ho).1
  have hr : r = (C, T, N) := Option.some.inj (h1.symm.trans hc)
  subst hr
  obtain ⟨hS, hfc, kC, hkC, hkind⟩ := hK.1 ci _ hc
  obtain ⟨cf, kf, fi, f, hi, hsl⟩ := hS k hk
  have hst := (u_facts hfc hkC (u_lays hts hin hk) hi).1
  have hlay := hts _ (hin _ (u_in_lay hk))
  have done : ∀ H' : Heap, H'[o]? = some (cell.setSlot f.slot v) → H'.size = H.size → (∀ q : Nat, q ≠ o → H'[q]? = H[q]?) → W p l e R s m args below meth c H' (locs ++ [⟨o, f.slot⟩]) cells slots Q (F0 m (pc + 3) ls rest) := by
    intro H' e1 e2 e3
    refine kk H' _ (hR.set ho (fun z => z) ?_ e2 e3) (xlocs hl (hR.old ho (fun z => z)))
    rw [hsl] at e1
    refine ⟨_, hc, t_OB.to (V := updV (vp_V fs) k v) ⟨_, e1, q2, q3, t_set q4 hap hk v⟩ (fun j _ => ?_)⟩
    show _ = vp_V (xupd fs k v) j
    rw [xupd_eq]
    exact vp_updV_set hlen v j
  unfold u_lay at hlay
  rcases hfin with hfin | ⟨hfin, hini, hdecl⟩
  · rw [if_neg (by rw [hfin]; decide)] at hlay
    have h6 := u_store hfc hkC hkind hlay hi (hty k hk) hn hfit
    exact W.putK hx hb (f := f) ⟨hown, hlink, ⟨_, _, _, hi⟩, hst⟩ (by rw [q2]; exact h6) q1 q3 (by rw [hsl]; exact k2_hasslot (q4 k hk)) rfl rfl hd done
  · rw [if_pos hfin] at hlay
    have hcf : m.cls = cf := by
      obtain ⟨_, _, c', _, _, _, -, -, hf', -, -, -, hown2, -⟩ := Cond.laysFinal_spec hlay
      have e1 : c' = cf := by have := hi.symm.trans hf'; simp at this; exact this.1.symm
      rw [hdecl] at hown2
      rw [← e1]; exact Option.some.inj (hown.symm.trans hown2)
    have h6 := u_fits hfc hkC hkind (Or.inr hlay) hi (hty k hk) hn hfit
    exact W.putFinK hx hb hown hlink hi hst hcf hini (by rw [q2]; exact h6) q1 q3 (by rw [hsl]; exact k2_hasslot (q4 k hk)) rfl rfl hd done
theorem xw_new {WL : List Cond} (hx : p.tables.exec = Jvm.exec) (hb : c.code = cc) (hts : ∀ w ∈ WL, w.before args s = true) (hK : va_K D cl [] s) (hR : xHR D cl H0 s h H) {own C : String} {T : u_T} {N n ci idx : Nat} {fs : List Value} (hin : ∀ w ∈ u_ws C T N, w ∈ WL)
    (ty0 : Nat → FieldType) (hty : ∀ k, k < N → parseFieldDescriptor (T k).2.2.1 = some (ty0 k)) (hown : s.vm.findClass own = some m.cls) (hc : cl[ci]? = some (C, T, N)) (hcl : (Cond.classLink own idx C).before args s = true) (hins : (Cond.instantiable C n).before args s = true) (hini : (Cond.initialized C).before args s = true)
    (hfs : ∀ j, j < N → defaultValue (ty0 j) = vp_V fs j) (hcells : cells + 1 ≤ R.cells) (hslots : slots + n ≤ R.slots) (hd : decode cc pc = .ok (.new idx, 3))
    (kk : ∀ H1 : Heap, xHR D cl H0 s (xnew h (xO' ci fs) n) H1 → W p l e R s m args below meth c H1 locs (cells + 1) (slots + n) Q (F0 m (pc + 3) ls (.ref h.2.1 :: rest))) : W p l e R s m args below meth c H locs cells slots Q (F0 m pc ls rest) := by
  have hKn := hK.1 ci _ hc
  refine W.newcK hx hb hown hcl hins hini rfl hd hcells hslots hKn.2.1 hR.1 fun H1 kC hkC e1 z1 o1 => ?_
  refine kk H1 (hR.new ?_ (by rw [z1, hR.1]) (fun q hq => o1 q (by rw [← hR.1]; exact hq)))
  rw [hR.1]
  exact ⟨_, hc, (u_born ty0 hts hin hKn hkC e1 hty).to hfs⟩
theorem xzero_val {t : Nat} {ty : FieldType} (h : (t = 0 ∧ ty = .int) ∨ (t = 1 ∧ ty = .long) ∨ (t = 2 ∧ ty = .boolean)) : (fun _ : Nat => defaultValue ty) = xvl (xzero t) := by
  rcases h with ⟨rfl, rfl⟩ | ⟨rfl, rfl⟩ | ⟨rfl, rfl⟩ <;> rfl
theorem xw_newa (hx : p.tables.exec = Jvm.exec) (hb : c.code = cc) (hR : xHR D cl H0 s h H) {atype : ArrayType} {t : Nat} (ht : (t = 0 ∧ newarray.typeOf atype = .int) ∨ (t = 1 ∧ newarray.typeOf atype = .long) ∨ (t = 2 ∧ newarray.typeOf atype = .boolean)) (harr : (Cond.arrayClass (newarray.typeOf atype)).before args s = true)
    {n : Int32} (hn : ¬ n < 0) (hbig : n.toNatClampNeg ≤ 1000000) (hcells : cells + 1 ≤ R.cells) (hslots : slots + n.toNatClampNeg ≤ R.slots) (hd : decode cc pc = .ok (.newarray atype, 2))
    (kk : ∀ H1 : Heap, xHR D cl H0 s (xnew h (xA t n.toNatClampNeg (xzero t)) n.toNatClampNeg) H1 → W p l e R s m args below meth c H1 locs (cells + 1) (slots + n.toNatClampNeg) Q (F0 m (pc + 2) ls (.ref h.2.1 :: rest))) : W p l e R s m args below meth c H locs cells slots Q (F0 m pc ls (.int n :: rest)) := by
  have hty : newarray.typeOf atype = xty cl t := by rcases ht with ⟨rfl, h2⟩ | ⟨rfl, h2⟩ | ⟨rfl, h2⟩ <;> exact h2
  have hbytes : n.toNatClampNeg * componentBytes (newarray.typeOf atype) ≤ 536870912 := by
    have : componentBytes (newarray.typeOf atype) ≤ 8 := by rcases ht with ⟨rfl, h2⟩ | ⟨rfl, h2⟩ | ⟨rfl, h2⟩ <;> (rw [h2]; decide)
    exact Nat.le_trans (Nat.mul_le_mul hbig this) (by decide)
  refine va_newaK hx hb harr rfl hd rfl hn rfl hbytes hcells hslots hR.1 fun H1 cA e1 z1 o1 hAr hNm => ?_
  refine kk H1 (hR.new ?_ (by rw [z1, hR.1]) (fun q hq => o1 q (by rw [← hR.1]; exact hq)))
  rw [hR.1]
  have ht3 : t ≠ 3 := by rcases ht with ⟨rfl, -⟩ | ⟨rfl, -⟩ | ⟨rfl, -⟩ <;> decide
  refine Or.inr ⟨ht3, cA, ?_, ?_, ?_⟩
  · rw [e1, xzero_val ht]
  · show ArrOfT s cA (xty cl t)
    rw [← hty]; exact hAr
  · show va_RA s cA (xty cl t)
    rw [← hty]
    rcases ht with ⟨rfl, h2⟩ | ⟨rfl, h2⟩ | ⟨rfl, h2⟩ <;> (rw [h2] at hNm ⊢; exact hNm)
theorem xw_newq (hx : p.tables.exec = Jvm.exec) (hb : c.code = cc) (hR : xHR D cl H0 s h H) {own : String} {r : vw_C} {k idx : Nat} (hc : cl[k]? = some r) (hown : s.vm.findClass own = some m.cls) (hcl : (Cond.classLink own idx r.1).before args s = true) (hover : (Cond.arrayOver (.object r.1)).before args s = true)
    {n : Int32} (hn : ¬ n < 0) (hbig : n.toNatClampNeg ≤ 1000000) (hcells : cells + 1 ≤ R.cells) (hslots : slots + n.toNatClampNeg ≤ R.slots) (hd : decode cc pc = .ok (.anewarray idx, 3))
    (kk : ∀ H1 : Heap, xHR D cl H0 s (xnew h (xA (5 + k) n.toNatClampNeg (xzero (5 + k))) n.toNatClampNeg) H1 → W p l e R s m args below meth c H1 locs (cells + 1) (slots + n.toNatClampNeg) Q (F0 m (pc + 3) ls (.ref h.2.1 :: rest))) : W p l e R s m args below meth c H locs cells slots Q (F0 m pc ls (.int n :: rest)) := by
  have hty : xty cl (5 + k) = .object r.1 := by
    rw [show 5 + k = k + 5 by omega]
    show FieldType.object ((cl[k]?.map (fun r => r.1)).getD "") = _
    rw [hc]; rfl
  have hz : xzero (5 + k) = xref (fun _ => none) := by rw [show 5 + k = k + 5 by omega]; rfl
  refine W.anew hx hb hown hcl hover rfl hd rfl hn (Nat.le_trans (Nat.mul_le_mul_right 4 hbig) (by decide)) hcells hslots fun cA kA comp f1 f2 f3 f4 => ?_
  rw [hR.1]
  refine kk _ (hR.new ?_ (by simp) (fun q hq => by rw [Array.getElem?_push, if_neg (Nat.ne_of_lt hq)]))
  refine Or.inr ⟨by show 5 + k ≠ 3; omega, cA, ?_, ?_, ?_⟩
  · show _ = some (arrV cA n.toNatClampNeg (xvl (xzero (5 + k))))
    rw [hz, Array.getElem?_push_size]
    exact congrArg some (arrV_new cA n.toNatClampNeg Value.null)
  · show ArrOfT s cA (xty cl (5 + k))
    rw [hty]
    exact fun N z => ⟨(fun k h => by cases h), kA, f2, comp, f3⟩
  · show va_RA s cA (xty cl (5 + k))
    rw [hty]
    exact ⟨kA, comp, f2, f3, f4, f1⟩
end XW
