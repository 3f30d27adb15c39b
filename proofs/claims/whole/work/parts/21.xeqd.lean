/-! the machine's equations in a form for rewriting: no continuation stands under a binder -/
abbrev xWt : Type := xM → xF → xH → Option xR
def xpush (W : xWt) (M : xM) (nx : Nat) (l : List (Option Value)) (st : List Value) (h : xH) (o : Option Value) : Option xR := match o with
  | some v => W M (nx, l, v :: st) h
  | none => none
def xthn (W : xWt) (M : xM) (nx : Nat) (l : List (Option Value)) (st : List Value) (o : Option xH) : Option xR := match o with
  | some h => W M (nx, l, st) h
  | none => none
def xret (W : xWt) (M : xM) (pc nx : Nat) (l : List (Option Value)) (rest : List Value) (o : Option xR) : Option xR := xS o fun r => xback W M pc nx l rest r
def xrc (k : Nat) (c : Option xE) (r : Option xR) : Option xR := match c with
  | some (.inr (c', _)) => xB (Nat.beq c' k) r
  | _ => none
def xfld (c b : Nat) (o : Option xE) : Option Value := match o with
  | some (.inr (c', fs)) => bif Nat.beq c' c then xnth fs b else none
  | _ => none
def xptf (e : Option xE) (h : xH) (o c b k : Nat) (w : Value) : Option xH := match e with
  | some (.inr (c', fs)) => bif Nat.beq c' c && Nat.blt b fs.length && xfit k w then some (xset h o (xO' c' (xupd fs b w))) else none
  | _ => none
def xdv (y : Int32) (v : Value) : Option Value := if y = 0 then none else some v
def xldI (c : Option xE) (j : Int32) : Option Value := match c with
  | some (.inl (t, n, .inl g)) => bif Nat.beq t 0 || Nat.beq t 3 then (if j < 0 ∨ n ≤ j.toNatClampNeg then none else some (.int (g j.toNatClampNeg))) else none
  | _ => none
def xldB (c : Option xE) (j : Int32) : Option Value := match c with
  | some (.inl (t, n, .inl g)) => bif Nat.beq t 2 then (if j < 0 ∨ n ≤ j.toNatClampNeg then none else some (.int (g j.toNatClampNeg))) else none
  | _ => none
def xldL (c : Option xE) (j : Int32) : Option Value := match c with
  | some (.inl (t, n, .inr (.inl g))) => bif Nat.beq t 1 then (if j < 0 ∨ n ≤ j.toNatClampNeg then none else some (.long (g j.toNatClampNeg))) else none
  | _ => none
def xldR (c : Option xE) (j : Int32) : Option Value := match c with
  | some (.inl (t, n, .inr (.inr (.inr (.inr g))))) => bif Nat.ble 4 t then (if j < 0 ∨ n ≤ j.toNatClampNeg then none else (g j.toNatClampNeg).map Value.ref) else none
  | _ => none
def xaln (c : Option xE) : Option Value := match c with
  | some (.inl (_, n, _)) => some (.int (Int32.ofNat n))
  | _ => none
def xstI (e : Option xE) (h : xH) (o : Nat) (j x : Int32) : Option xH := match e with
  | some (.inl (t, n, .inl g)) => bif Nat.beq t 0 then (if j < 0 ∨ n ≤ j.toNatClampNeg then none else some (xset h o (xA t n (xint (upd g j.toNatClampNeg x))))) else none
  | _ => none
def xstB (e : Option xE) (h : xH) (o : Nat) (j x : Int32) : Option xH := match e with
  | some (.inl (t, n, .inl g)) => bif Nat.beq t 2 && decide (x = 0 ∨ x = 1) then (if j < 0 ∨ n ≤ j.toNatClampNeg then none else some (xset h o (xA t n (xint (upd g j.toNatClampNeg x))))) else none
  | _ => none
def xstL (e : Option xE) (h : xH) (o : Nat) (j : Int32) (x : Int64) : Option xH := match e with
  | some (.inl (t, n, .inr (.inl g))) => bif Nat.beq t 1 then (if j < 0 ∨ n ≤ j.toNatClampNeg then none else some (xset h o (xA t n (xlng (vp_updL g j.toNatClampNeg x))))) else none
  | _ => none
def xstR (e e' : Option xE) (h : xH) (o : Nat) (j : Int32) (w : Nat) : Option xH := match e with
  | some (.inl (t, n, .inr (.inr (.inr (.inr g))))) => (match e' with
    | some (.inr (c, _)) => bif Nat.beq t (5 + c) then (if j < 0 ∨ n ≤ j.toNatClampNeg then none else some (xset h o (xA t n (xref (va_up g j.toNatClampNeg (some w)))))) else none
    | _ => none)
  | _ => none
def xcp (e e' : Option xE) (h : xH) (sp : Int32) (d : Nat) (dp n : Int32) : Option xH := match e with
  | some (.inl (t, n0, .inl g)) => (match e' with
    | some (.inl (t', n1, .inl g')) => bif Nat.beq t 0 && Nat.beq t' 0 then (if sp < 0 ∨ dp < 0 ∨ n < 0 ∨ n0 < sp.toNatClampNeg + n.toNatClampNeg ∨ n1 < dp.toNatClampNeg + n.toNatClampNeg then none else some (xset h d (xA t' n1 (xint (va_cpy g g' sp.toNatClampNeg dp.toNatClampNeg n.toNatClampNeg))))) else none
    | _ => none)
  | _ => none
def xmk (W : xWt) (M : xM) (nx : Nat) (l : List (Option Value)) (st : List Value) (h : xH) (a : Nat) (n : Int32) : Option xR :=
  xN (n < 0 ∨ 1000000 < n.toNatClampNeg) (W M (nx, l, .ref h.2.1 :: st) (xnew h (xA a n.toNatClampNeg (xzero a)) n.toNatClampNeg))
def xmk2 (W : xWt) (M : xM) (nx : Nat) (l : List (Option Value)) (st : List Value) (h : xH) (a b : Nat) (n k : Int32) : Option xR :=
  xN (n < 0 ∨ 1000 < n.toNatClampNeg ∨ k < 0 ∨ 1000000 < k.toNatClampNeg) (W M (nx, l, .ref h.2.1 :: st) (xgrid h a b n.toNatClampNeg k.toNatClampNeg))
section XEQD
variable {V : Nat → Value} {W : xWt} {M : xM} {nx pc a b k o : Nat} {l : List (Option Value)} {st rest : List Value} {h : xH} {c : Option xE} {w : Value} {j x : Int32}
def xit (V : Nat → Value) (W : xWt) (k : Nat) : xWt := Nat.rec W (fun _ ih => xbody V xF0 xG ih) k
theorem xW_k (hW : ∀ M f h, W M f h = xbody V xF0 xG W M f h) : ∀ (k : Nat) (M : xM) (f : xF) (h : xH), W M f h = xit V W k M f h := by
  have hW' : W = xbody V xF0 xG W := by funext M f h; exact hW M f h
  have : ∀ k, W = xit V W k := by
    intro k
    induction k with
    | zero => rfl
    | succ k ih =>
      show W = xbody V xF0 xG (xit V W k)
      rw [← ih]
      exact hW'
  intro k M f h
  rw [← this k]
theorem xq_fld : xcO c (fun c' fs => xB (Nat.beq c' a) (xS (xnth fs b) fun w => W M (nx, l, w :: st) h)) = xpush W M nx l st h (xfld a b c) := by
  rcases c with _ | (e | ⟨c', fs⟩)
  · rfl
  · rfl
  · show xB (Nat.beq c' a) (xS (xnth fs b) fun w => W M (nx, l, w :: st) h) = xpush W M nx l st h (bif Nat.beq c' a then xnth fs b else none)
    cases Nat.beq c' a
    · rfl
    · show xS (xnth fs b) _ = xpush W M nx l st h (xnth fs b)
      cases xnth fs b <;> rfl
theorem xq_ptf : xcO (h.1 o) (fun c fs => xB (Nat.beq c a && Nat.blt b fs.length && xfit k w) (W M (nx, l, st) (xset h o (xO' c (xupd fs b w))))) = xthn W M nx l st (xptf (h.1 o) h o a b k w) := by
  unfold xptf
  rcases h.1 o with _ | (e | ⟨c', fs⟩)
  · rfl
  · rfl
  · show xB (Nat.beq c' a && Nat.blt b fs.length && xfit k w) _ = xthn W M nx l st (bif Nat.beq c' a && Nat.blt b fs.length && xfit k w then _ else none)
    cases Nat.beq c' a && Nat.blt b fs.length && xfit k w <;> rfl
theorem xq_ldI : xcI c (fun t n g => xB (Nat.beq t 0 || Nat.beq t 3) (xN (j < 0 ∨ n ≤ j.toNatClampNeg) (W M (nx, l, .int (g j.toNatClampNeg) :: st) h))) = xpush W M nx l st h (xldI c j) := by
  rcases c with _ | (⟨t, n, (g | g | g | g | g)⟩ | e) <;> try rfl
  show xB (Nat.beq t 0 || Nat.beq t 3) _ = xpush W M nx l st h (bif Nat.beq t 0 || Nat.beq t 3 then _ else none)
  cases Nat.beq t 0 || Nat.beq t 3
  · rfl
  · unfold xB xN; dsimp only [cond]; split <;> rfl
theorem xq_ldB : xcI c (fun t n g => xB (Nat.beq t 2) (xN (j < 0 ∨ n ≤ j.toNatClampNeg) (W M (nx, l, .int (g j.toNatClampNeg) :: st) h))) = xpush W M nx l st h (xldB c j) := by
  rcases c with _ | (⟨t, n, (g | g | g | g | g)⟩ | e) <;> try rfl
  show xB (Nat.beq t 2) _ = xpush W M nx l st h (bif Nat.beq t 2 then _ else none)
  cases Nat.beq t 2
  · rfl
  · unfold xB xN; dsimp only [cond]; split <;> rfl
theorem xq_ldL : xcL c (fun t n g => xB (Nat.beq t 1) (xN (j < 0 ∨ n ≤ j.toNatClampNeg) (W M (nx, l, .long (g j.toNatClampNeg) :: st) h))) = xpush W M nx l st h (xldL c j) := by
  rcases c with _ | (⟨t, n, (g | g | g | g | g)⟩ | e) <;> try rfl
  show xB (Nat.beq t 1) _ = xpush W M nx l st h (bif Nat.beq t 1 then _ else none)
  cases Nat.beq t 1
  · rfl
  · unfold xB xN; dsimp only [cond]; split <;> rfl
theorem xq_ldR : xcR c (fun t n g => xB (Nat.ble 4 t) (xN (j < 0 ∨ n ≤ j.toNatClampNeg) (xS (g j.toNatClampNeg) fun w => W M (nx, l, .ref w :: st) h))) = xpush W M nx l st h (xldR c j) := by
  rcases c with _ | (⟨t, n, (g | g | g | g | g)⟩ | e) <;> try rfl
  show xB (Nat.ble 4 t) _ = xpush W M nx l st h (bif Nat.ble 4 t then _ else none)
  cases Nat.ble 4 t
  · rfl
  · unfold xB xN; dsimp only [cond]; split
    · rfl
    · cases g j.toNatClampNeg <;> rfl
theorem xq_aln : xcA c (fun n => W M (nx, l, .int (Int32.ofNat n) :: st) h) = xpush W M nx l st h (xaln c) := by
  rcases c with _ | (⟨t, n, g⟩ | e) <;> rfl
theorem xq_stI : xcI (h.1 o) (fun t n g => xB (Nat.beq t 0) (xN (j < 0 ∨ n ≤ j.toNatClampNeg) (W M (nx, l, st) (xset h o (xA t n (xint (upd g j.toNatClampNeg x))))))) = xthn W M nx l st (xstI (h.1 o) h o j x) := by
  unfold xstI
  rcases h.1 o with _ | (⟨t, n, (g | g | g | g | g)⟩ | e) <;> try rfl
  show xB (Nat.beq t 0) _ = xthn W M nx l st (bif Nat.beq t 0 then _ else none)
  cases Nat.beq t 0
  · rfl
  · unfold xB xN; dsimp only [cond]; split <;> rfl
theorem xq_stB : xcI (h.1 o) (fun t n g => xB (Nat.beq t 2 && decide (x = 0 ∨ x = 1)) (xN (j < 0 ∨ n ≤ j.toNatClampNeg) (W M (nx, l, st) (xset h o (xA t n (xint (upd g j.toNatClampNeg x))))))) = xthn W M nx l st (xstB (h.1 o) h o j x) := by
  unfold xstB
  rcases h.1 o with _ | (⟨t, n, (g | g | g | g | g)⟩ | e) <;> try rfl
  show xB (Nat.beq t 2 && decide (x = 0 ∨ x = 1)) _ = xthn W M nx l st (bif Nat.beq t 2 && decide (x = 0 ∨ x = 1) then _ else none)
  cases Nat.beq t 2 && decide (x = 0 ∨ x = 1)
  · rfl
  · unfold xB xN; dsimp only [cond]; split <;> rfl
theorem xq_stL {y : Int64} : xcL (h.1 o) (fun t n g => xB (Nat.beq t 1) (xN (j < 0 ∨ n ≤ j.toNatClampNeg) (W M (nx, l, st) (xset h o (xA t n (xlng (vp_updL g j.toNatClampNeg y))))))) = xthn W M nx l st (xstL (h.1 o) h o j y) := by
  unfold xstL
  rcases h.1 o with _ | (⟨t, n, (g | g | g | g | g)⟩ | e) <;> try rfl
  show xB (Nat.beq t 1) _ = xthn W M nx l st (bif Nat.beq t 1 then _ else none)
  cases Nat.beq t 1
  · rfl
  · unfold xB xN; dsimp only [cond]; split <;> rfl
theorem xq_stR {q : Nat} : xcR (h.1 o) (fun t n g => xcO (h.1 q) fun c _ => xB (Nat.beq t (5 + c)) (xN (j < 0 ∨ n ≤ j.toNatClampNeg) (W M (nx, l, st) (xset h o (xA t n (xref (va_up g j.toNatClampNeg (some q)))))))) = xthn W M nx l st (xstR (h.1 o) (h.1 q) h o j q) := by
  unfold xstR
  rcases h.1 o with _ | (⟨t, n, (g | g | g | g | g)⟩ | e) <;> try rfl
  rcases h.1 q with _ | (e | ⟨c', fs⟩) <;> try rfl
  show xB (Nat.beq t (5 + c')) _ = xthn W M nx l st (bif Nat.beq t (5 + c') then _ else none)
  cases Nat.beq t (5 + c')
  · rfl
  · unfold xB xN; dsimp only [cond]; split <;> rfl
theorem xq_dv : xN (x = 0) (W M (nx, l, w :: st) h) = xpush W M nx l st h (xdv x w) := by
  unfold xN xdv; split <;> rfl
theorem xq_cp {s d : Nat} {sp dp n : Int32} : xcI (h.1 s) (fun t n0 g => xcI (h.1 d) fun t' n1 g' => xB (Nat.beq t 0 && Nat.beq t' 0)
        (xN (sp < 0 ∨ dp < 0 ∨ n < 0 ∨ n0 < sp.toNatClampNeg + n.toNatClampNeg ∨ n1 < dp.toNatClampNeg + n.toNatClampNeg)
          (xB (Nat.ble (xwt []) 8) (W M (nx, l, []) (xset h d (xA t' n1 (xint (va_cpy g g' sp.toNatClampNeg dp.toNatClampNeg n.toNatClampNeg)))))))) = xthn W M nx l [] (xcp (h.1 s) (h.1 d) h sp d dp n) := by
  unfold xcp
  rcases h.1 s with _ | (⟨t, n, (g | g | g | g | g)⟩ | e) <;> try rfl
  rcases h.1 d with _ | (⟨t', n', (g' | g' | g' | g' | g')⟩ | e) <;> try rfl
  show xB (Nat.beq t 0 && Nat.beq t' 0) _ = xthn W M nx l [] (bif Nat.beq t 0 && Nat.beq t' 0 then _ else none)
  cases Nat.beq t 0 && Nat.beq t' 0
  · rfl
  · unfold xB xN; dsimp only [cond]; split <;> rfl
theorem xq_rc {R : Option xR} : xcO c (fun c' _ => xB (Nat.beq c' k) (xS R (fun r => xback W M pc nx l rest r))) = xret W M pc nx l rest (xrc k c R) := by
  rcases c with _ | (e | ⟨c', fs⟩) <;> try rfl
  show xB (Nat.beq c' k) _ = xret W M pc nx l rest (xB (Nat.beq c' k) R)
  cases Nat.beq c' k <;> rfl
end XEQD
