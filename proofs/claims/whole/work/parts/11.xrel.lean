/-! the small machine's pictures against the heap, its slots against the frame -/
def xty (cl : List vw_C) : Nat → FieldType
  | 0 => .int
  | 1 => .long
  | 2 => .boolean
  | 3 => .int
  | 4 => .array .int
  | c + 5 => .object ((cl[c]?.map (fun r => r.1)).getD "")
def xvl (ct : (Nat → Int32) ⊕ (Nat → Int64) ⊕ (Nat → UInt32) ⊕ (Nat → UInt64) ⊕ (Nat → Option Nat)) (j : Nat) : Value := match ct with
  | .inl f => .int (f j)
  | .inr (.inl f) => .long (f j)
  | .inr (.inr (.inl f)) => .float (f j)
  | .inr (.inr (.inr (.inl f))) => .double (f j)
  | .inr (.inr (.inr (.inr f))) => va_rf (f j)
def xat (D : va_G) (cl : List vw_C) (U : State) (q : Nat) (e : xE) (H : Heap) : Prop := match e with
  | .inl a => (a.1 = 3 ∧ ∃ cell : Cell, H[q]? = some cell ∧ U.isArrayOf cell .int ∧ cell.vm ≠ .unknown ∧ (a.2.1 ≤ cell.slots.size ∧ cell.slots.size.toInt32 = Int32.ofNat a.2.1) ∧ ∀ j : Nat, j < a.2.1 → cell.slots[j]? = some (xvl a.2.2 j)) ∨
      (a.1 ≠ 3 ∧ ∃ cA : ClassId, H[q]? = some (arrV cA a.2.1 (xvl a.2.2)) ∧ ArrOfT U cA (xty cl a.1) ∧ va_RA U cA (xty cl a.1))
  | .inr o => ∃ r : vw_C, cl[o.1]? = some r ∧ t_OB q (D.1 o.1) r.2.2 (D.2 o.1) H (vp_V o.2)
def xro (e : xE) : Prop := match e with
  | .inl a => a.1 = 3
  | .inr _ => False
def xHR (D : va_G) (cl : List vw_C) (H0 : Heap) (U : State) (h : xH) (H : Heap) : Prop :=
  H.size = h.2.1 ∧ H0.size ≤ H.size ∧ (∀ q : Nat, q < H0.size → H[q]? = H0[q]?) ∧ ∀ (q : Nat) (e : xE), h.1 q = some e → xat D cl U q e H ∧ (xro e ∨ H0.size ≤ q)
theorem xnth_eq : ∀ (fs : List Value) (b : Nat), xnth fs b = fs[b]?
  | [], _ => by simp [xnth]
  | x :: _, 0 => by simp [xnth]
  | x :: t, b + 1 => by simp [xnth, xnth_eq t b]
theorem xupd_eq : ∀ (fs : List Value) (b : Nat) (v : Value), xupd fs b v = fs.set b v
  | [], _, _ => by simp [xupd]
  | x :: _, 0, _ => by simp [xupd]
  | x :: t, b + 1, v => by simp [xupd, xupd_eq t b v]
theorem xwt_eq : ∀ st : List Value, xwt st = (st.map fun v => v.category).sum
  | [] => rfl
  | v :: t => by simp [xwt, xwt_eq t]
section XA
variable {D : va_G} {cl : List vw_C} {H0 H H1 : Heap} {U U1 : State} {h : xH} {q : Nat} {e : xE}
theorem xat.kept (k : xat D cl U q e H) (hq : H1[q]? = H[q]?) : xat D cl U q e H1 := by
  cases e with
  | inl x =>
    rcases k with ⟨h0, cell, h1, h2⟩ | ⟨h0, cA, h1, h2⟩
    · exact Or.inl ⟨h0, cell, hq.trans h1, h2⟩
    · exact Or.inr ⟨h0, cA, hq.trans h1, h2⟩
  | inr o =>
    obtain ⟨r, h1, h2⟩ := k
    exact ⟨r, h1, h2.kept hq⟩
theorem xat.moved (hvm : U.vm.Alike U1.vm) (k : xat D cl U q e H) : xat D cl U1 q e H := by
  cases e with
  | inl x =>
    rcases k with ⟨h0, cell, h1, h2, h3⟩ | ⟨h0, cA, h1, h2, h3⟩
    · exact Or.inl ⟨h0, cell, h1, State.isArrayOf_alike hvm h2, h3⟩
    · exact Or.inr ⟨h0, cA, h1, arrOfT_moved hvm h2, h3.moved hvm⟩
  | inr o => exact k
theorem xat.arr {t n : Nat} {ct : (Nat → Int32) ⊕ (Nat → Int64) ⊕ (Nat → UInt32) ⊕ (Nat → UInt64) ⊕ (Nat → Option Nat)} (k : xat D cl U q (.inl (t, n, ct)) H) :
    ∃ cell : Cell, H[q]? = some cell ∧ U.isArrayOf cell (xty cl t) ∧ cell.vm ≠ .unknown ∧ (n ≤ cell.slots.size ∧ cell.slots.size.toInt32 = Int32.ofNat n) ∧ ∀ j : Nat, j < n → cell.slots[j]? = some (xvl ct j) := by
  rcases k with ⟨h0, cell, h1, h2, h3, h4, h5⟩ | ⟨h0, cA, h1, h2, h3⟩
  · have h0 : t = 3 := h0
    subst h0
    exact ⟨cell, h1, h2, h3, h4, h5⟩
  · exact ⟨_, h1, h2 n (xvl ct), (fun z => by cases z), ⟨Nat.le_of_eq (arrV_size _ _ _).symm, by rw [arrV_size] <;> rfl⟩, fun j hj => arrV_read _ _ hj⟩
theorem xat.lt (k : xat D cl U q e H) : q < H.size := by
  cases e with
  | inl x =>
    obtain ⟨cell, h1, -⟩ := xat.arr (t := x.1) (n := x.2.1) (ct := x.2.2) k
    exact (Array.getElem?_eq_some_iff.mp h1).1
  | inr o =>
    obtain ⟨r, -, cell, h2, -⟩ := k
    exact (Array.getElem?_eq_some_iff.mp h2).1
theorem xHR.moved (hvm : U.vm.Alike U1.vm) (k : xHR D cl H0 U h H) : xHR D cl H0 U1 h H :=
  ⟨k.1, k.2.1, k.2.2.1, fun q e he => ⟨(k.2.2.2 q e he).1.moved hvm, (k.2.2.2 q e he).2⟩⟩
theorem xHR.lt (k : xHR D cl H0 U h H) (he : h.1 q = some e) : q < H.size := (k.2.2.2 q e he).1.lt
theorem xHR.old (k : xHR D cl H0 U h H) (he : h.1 q = some e) (hr : ¬ xro e) : H0.size ≤ q := (k.2.2.2 q e he).2.resolve_left hr
theorem xHR.set {e1 : xE} (k : xHR D cl H0 U h H) (he : h.1 q = some e) (hr : ¬ xro e) (ha : xat D cl U q e1 H1) (z : H1.size = H.size) (oq : ∀ x : Nat, x ≠ q → H1[x]? = H[x]?) : xHR D cl H0 U (xset h q e1) H1 := by
  have hold := k.old he hr
  refine ⟨z.trans k.1, by rw [z]; exact k.2.1, fun x hx => ?_, fun x ex hx => ?_⟩
  · rw [oq x (by omega)]
    exact k.2.2.1 x hx
  · by_cases hxq : x = q
    · subst hxq
      have : some e1 = some ex := by simpa [xset] using hx
      cases this
      exact ⟨ha, Or.inr hold⟩
    · have hx' : h.1 x = some ex := by simpa [xset, hxq] using hx
      obtain ⟨k1, k2⟩ := k.2.2.2 x ex hx'
      exact ⟨k1.kept (oq x hxq), k2⟩
theorem xHR.new {e1 : xE} {n : Nat} (k : xHR D cl H0 U h H) (ha : xat D cl U H.size e1 H1) (z : H1.size = H.size + 1) (oq : ∀ x : Nat, x < H.size → H1[x]? = H[x]?) : xHR D cl H0 U (xnew h e1 n) H1 := by
  have hs := k.1
  have h0 := k.2.1
  refine ⟨by rw [z, hs]; rfl, by omega, fun x hx => ?_, fun x ex hx => ?_⟩
  · rw [oq x (by omega)]
    exact k.2.2.1 x hx
  · by_cases hxq : x = h.2.1
    · have : some e1 = some ex := by simpa [xnew, hxq] using hx
      cases this
      rw [hxq, ← hs]
      exact ⟨ha, Or.inr h0⟩
    · have hx' : h.1 x = some ex := by simpa [xnew, hxq] using hx
      obtain ⟨k1, k2⟩ := k.2.2.2 x ex hx'
      exact ⟨k1.kept (oq x k1.lt), k2⟩
end XA
/-! the slots -/
def xl (ls : Array Slot) (nL : Nat) (l : List (Option Value)) : Prop := ls.size = nL ∧ l.length = nL ∧ lv_wf ls ∧ ∀ (i : Nat) (v : Value), xget l i = some v → ls[i]? = some (.val v)
def xal (l : List (Option Value)) : List (Nat × Value) := (List.range l.length).filterMap (fun i => (xget l i).map (fun v => (i, v)))
theorem xget_lt : ∀ (l : List (Option Value)) (i : Nat) (v : Value), xget l i = some v → i < l.length
  | [], _, _, h => by simp [xget] at h
  | _ :: _, 0, _, _ => by simp
  | _ :: t, i + 1, v, h => by
    have := xget_lt t i v (by simpa [xget] using h)
    simp only [List.length_cons]
    omega
theorem xal_mem {l : List (Option Value)} {q : Nat × Value} : q ∈ xal l ↔ xget l q.1 = some q.2 := by
  obtain ⟨i, v⟩ := q
  simp only [xal, List.mem_filterMap, List.mem_range, Option.map_eq_some_iff, Prod.mk.injEq]
  constructor
  · rintro ⟨j, -, w, hw, rfl, rfl⟩
    exact hw
  · intro h
    exact ⟨i, xget_lt l i v h, v, h, rfl, rfl⟩
theorem xl.has {ls : Array Slot} {nL : Nat} {l : List (Option Value)} (h : xl ls nL l) : lv_has ls nL (xal l) :=
  ⟨h.1, h.2.2.1, fun q hq => h.2.2.2 q.1 q.2 (xal_mem.mp hq)⟩
theorem xl.at {ls : Array Slot} {nL : Nat} {l : List (Option Value)} (h : xl ls nL l) {i : Nat} {v : Value} (hv : xget l i = some v) : ls[i]? = some (.val v) := h.2.2.2 i v hv
theorem xkeep_spec {x : Option Value} {w : Value} (h : xkeep x = some w) : x = some w ∧ ¬ w.category = 2 := by
  unfold xkeep at h
  split at h
  · cases h; exact ⟨rfl, by simp [Value.category]⟩
  · cases h; exact ⟨rfl, by simp [Value.category]⟩
  · cases h; exact ⟨rfl, by simp [Value.category]⟩
  · cases h
theorem xst1_spec (v : Value) : ∀ (i : Nat) (l l' : List (Option Value)), xst1 v i l = some l' →
    i < l.length ∧ l'.length = l.length ∧ ∀ (j : Nat) (w : Value), xget l' j = some w → (j = i ∧ w = v) ∨ (j ≠ i ∧ xget l j = some w ∧ ¬ (j + 1 = i ∧ w.category = 2))
  | 0, [], _, h => by simp [xst1] at h
  | 0, _ :: t, l', h => by
    simp only [xst1, Option.some.injEq] at h
    subst h
    refine ⟨by simp, by simp, fun j w hj => ?_⟩
    cases j with
    | zero => left; simp [xget] at hj; exact ⟨rfl, hj.symm⟩
    | succ j => right; exact ⟨by omega, by simpa [xget] using hj, by omega⟩
  | 1, [], _, h => by simp [xst1] at h
  | 1, [_], _, h => by simp [xst1] at h
  | 1, x :: y :: t, l', h => by
    simp only [xst1, Option.some.injEq] at h
    subst h
    refine ⟨by simp, by simp, fun j w hj => ?_⟩
    cases j with
    | zero =>
      right
      obtain ⟨k1, k2⟩ := xkeep_spec (by simpa [xget] using hj)
      exact ⟨by omega, by simpa [xget] using k1, fun z => k2 z.2⟩
    | succ j =>
      cases j with
      | zero => left; simp [xget] at hj; exact ⟨rfl, hj.symm⟩
      | succ j => right; exact ⟨by omega, by simpa [xget] using hj, by omega⟩
  | i + 2, [], _, h => by simp [xst1] at h
  | i + 2, x :: t, l', h => by
    simp only [xst1] at h
    split at h
    · next t' ht =>
      simp only [Option.some.injEq] at h
      subst h
      obtain ⟨a1, a2, a3⟩ := xst1_spec v (i + 1) t t' ht
      refine ⟨by simp only [List.length_cons]; omega, by simp only [List.length_cons]; omega, fun j w hj => ?_⟩
      cases j with
      | zero => right; exact ⟨by omega, by simpa [xget] using hj, by omega⟩
      | succ j =>
        rcases a3 j w (by simpa [xget] using hj) with ⟨b1, b2⟩ | ⟨b1, b2, b3⟩
        · left; exact ⟨by omega, b2⟩
        · right; exact ⟨by omega, by simpa [xget] using b2, fun z => b3 ⟨by omega, z.2⟩⟩
    · cases h
theorem xst2_spec (v : Value) : ∀ (i : Nat) (l l' : List (Option Value)), xst2 v i l = some l' →
    i + 1 < l.length ∧ l'.length = l.length ∧ ∀ (j : Nat) (w : Value), xget l' j = some w → (j = i ∧ w = v) ∨ (j ≠ i ∧ j ≠ i + 1 ∧ xget l j = some w ∧ ¬ (j + 1 = i ∧ w.category = 2))
  | 0, [], _, h => by simp [xst2] at h
  | 0, [_], _, h => by simp [xst2] at h
  | 0, _ :: _ :: t, l', h => by
    simp only [xst2, Option.some.injEq] at h
    subst h
    refine ⟨by simp, by simp, fun j w hj => ?_⟩
    cases j with
    | zero => left; simp [xget] at hj; exact ⟨rfl, hj.symm⟩
    | succ j =>
      cases j with
      | zero => simp [xget] at hj
      | succ j => right; exact ⟨by omega, by omega, by simpa [xget] using hj, by omega⟩
  | 1, [], _, h => by simp [xst2] at h
  | 1, [_], _, h => by simp [xst2] at h
  | 1, [_, _], _, h => by simp [xst2] at h
  | 1, x :: y :: z :: t, l', h => by
    simp only [xst2, Option.some.injEq] at h
    subst h
    refine ⟨by simp, by simp, fun j w hj => ?_⟩
    cases j with
    | zero =>
      right
      obtain ⟨k1, k2⟩ := xkeep_spec (by simpa [xget] using hj)
      exact ⟨by omega, by omega, by simpa [xget] using k1, fun z => k2 z.2⟩
    | succ j =>
      cases j with
      | zero => left; simp [xget] at hj; exact ⟨rfl, hj.symm⟩
      | succ j =>
        cases j with
        | zero => simp [xget] at hj
        | succ j => right; exact ⟨by omega, by omega, by simpa [xget] using hj, by omega⟩
  | i + 2, [], _, h => by simp [xst2] at h
  | i + 2, x :: t, l', h => by
    simp only [xst2] at h
    split at h
    · next t' ht =>
      simp only [Option.some.injEq] at h
      subst h
      obtain ⟨a1, a2, a3⟩ := xst2_spec v (i + 1) t t' ht
      refine ⟨by simp only [List.length_cons]; omega, by simp only [List.length_cons]; omega, fun j w hj => ?_⟩
      cases j with
      | zero => right; exact ⟨by omega, by omega, by simpa [xget] using hj, by omega⟩
      | succ j =>
        rcases a3 j w (by simpa [xget] using hj) with ⟨b1, b2⟩ | ⟨b1, b2, b3, b4⟩
        · left; exact ⟨by omega, b2⟩
        · right; exact ⟨by omega, by omega, by simpa [xget] using b3, fun z => b4 ⟨by omega, z.2⟩⟩
    · cases h
theorem xl.st1 {ls ls' : Array Slot} {nL i : Nat} {l l' : List (Option Value)} {v : Value} (h : xl ls nL l) (hs : xst1 v i l = some l') (hh : lv_has ls' nL ((i, v) :: (xal l).filter (fun q => !(q.1 == i) && !(q.1 + 1 == i && q.2.category == 2)))) : xl ls' nL l' := by
  obtain ⟨a1, a2, a3⟩ := xst1_spec v i l l' hs
  refine ⟨hh.1, a2.trans h.2.1, hh.2.1, fun j w hj => ?_⟩
  rcases a3 j w hj with ⟨rfl, rfl⟩ | ⟨b1, b2, b3⟩
  · exact hh.2.2 _ List.mem_cons_self
  · refine hh.2.2 (j, w) (List.mem_cons_of_mem _ (List.mem_filter.mpr ⟨xal_mem.mpr b2, ?_⟩))
    simp only [Bool.and_eq_true, Bool.not_eq_true', beq_eq_false_iff_ne, ne_eq, Bool.and_eq_false_iff]
    refine ⟨b1, ?_⟩
    by_cases z : j + 1 = i
    · exact Or.inr (fun y => b3 ⟨z, y⟩)
    · exact Or.inl z
theorem xl.st2 {ls ls' : Array Slot} {nL i : Nat} {l l' : List (Option Value)} {v : Value} (h : xl ls nL l) (hs : xst2 v i l = some l') (hh : lv_has ls' nL ((i, v) :: (xal l).filter (fun q => !(q.1 == i) && (!(q.1 == i + 1) && !(q.1 + 1 == i && q.2.category == 2))))) : xl ls' nL l' := by
  obtain ⟨a1, a2, a3⟩ := xst2_spec v i l l' hs
  refine ⟨hh.1, a2.trans h.2.1, hh.2.1, fun j w hj => ?_⟩
  rcases a3 j w hj with ⟨rfl, rfl⟩ | ⟨b1, b0, b2, b3⟩
  · exact hh.2.2 _ List.mem_cons_self
  · refine hh.2.2 (j, w) (List.mem_cons_of_mem _ (List.mem_filter.mpr ⟨xal_mem.mpr b2, ?_⟩))
    simp only [Bool.and_eq_true, Bool.not_eq_true', beq_eq_false_iff_ne, ne_eq, Bool.and_eq_false_iff]
    refine ⟨b1, b0, ?_⟩
    by_cases z : j + 1 = i
    · exact Or.inr (fun y => b3 ⟨z, y⟩)
    · exact Or.inl z
theorem xpad_len : ∀ (n : Nat) (b : Bool) (vs : List Value), (xpad n b vs).length = n
  | 0, _, _ => rfl
  | n + 1, true, vs => by simp [xpad, xpad_len n]
  | n + 1, false, [] => by simp [xpad, xpad_len n]
  | n + 1, false, v :: vs => by simp [xpad, xpad_len n]
theorem xpad_spec : ∀ (n : Nat) (b : Bool) (vs : List Value) (k i : Nat) (v : Value), xget (xpad n b vs) i = some v → (k + i, v) ∈ lv_args (if b = true then k + 1 else k) vs
  | 0, _, _, _, _, _, h => by simp [xpad, xget] at h
  | n + 1, true, vs, k, i, v, h => by
    cases i with
    | zero => simp [xpad, xget] at h
    | succ i =>
      have := xpad_spec n false vs (k + 1) i v (by simpa [xpad, xget] using h)
      simp only [Bool.false_eq_true, if_false] at this
      simp only [if_true]
      rw [show k + (i + 1) = k + 1 + i by omega]
      exact this
  | n + 1, false, [], k, i, v, h => by
    cases i with
    | zero => simp [xpad, xget] at h
    | succ i =>
      have := xpad_spec n false [] (k + 1) i v (by simpa [xpad, xget] using h)
      simp [lv_args] at this
  | n + 1, false, w :: vs, k, i, v, h => by
    simp only [Bool.false_eq_true, if_false, lv_args]
    cases i with
    | zero =>
      simp only [xpad, xget, Option.some.injEq] at h
      subst h
      exact List.mem_cons_self
    | succ i =>
      have := xpad_spec n (w.category == 2) vs (k + 1) i v (by simpa [xpad, xget] using h)
      refine List.mem_cons_of_mem _ ?_
      rw [show k + (i + 1) = k + 1 + i by omega]
      simpa using this
theorem lg_sl_len : ∀ vs : List Value, (lg_sl vs).length = xwt vs
  | [] => rfl
  | v :: vs => by
    have ih := lg_sl_len vs
    rcases lv_cat v with hc | hc
    · simp only [lg_sl, List.flatMap_cons, hc] at ih ⊢
      simp [xwt, hc, ih]; omega
    · simp only [lg_sl, List.flatMap_cons, hc] at ih ⊢
      simp [xwt, hc, ih]; omega
theorem xl_entry (vs : List Value) {n : Nat} (hw : xwt vs ≤ n) : xl ((lg_sl vs ++ List.replicate (n - (lg_sl vs).length) Slot.unset).toArray) n (xpad n false vs) := by
  have hl := lv_entry vs (n := n) (by rw [lg_sl_len]; exact hw)
  refine ⟨hl.1, xpad_len n false vs, hl.2.1, fun i v hv => ?_⟩
  have := xpad_spec n false vs 0 i v hv
  simp only [Bool.false_eq_true, if_false, Nat.zero_add] at this
  exact hl.2.2 (i, v) this
theorem xpop_spec : ∀ (n : Nat) (acc st as rest : List Value), xpop n acc st = some (as, rest) → ∃ ys : List Value, ys.length = n ∧ as = ys ++ acc ∧ st = ys.reverse ++ rest
  | 0, acc, st, as, rest, h => by
    simp only [xpop, Option.some.injEq, Prod.mk.injEq] at h
    exact ⟨[], rfl, by simp [h.1], by simp [h.2]⟩
  | n + 1, acc, [], as, rest, h => by simp [xpop] at h
  | n + 1, acc, v :: st, as, rest, h => by
    simp only [xpop] at h
    obtain ⟨ys, h1, h2, h3⟩ := xpop_spec n (v :: acc) st as rest h
    exact ⟨ys ++ [v], by simp [h1], by simp [h2], by simp [h3]⟩
theorem xpop_nil {n : Nat} {st as rest : List Value} (h : xpop n [] st = some (as, rest)) : as.length = n ∧ st = as.reverse ++ rest := by
  obtain ⟨ys, h1, h2, h3⟩ := xpop_spec n [] st as rest h
  simp only [List.append_nil] at h2
  subst h2
  exact ⟨h1, h3⟩
