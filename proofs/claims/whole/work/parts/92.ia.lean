/-! new objects: what one step of a constructor does to the heap -/
theorem nne {N a b : Nat} (h : a ≠ b) : N + a ≠ N + b := fun e => h (Nat.add_left_cancel e)
theorem nnl {N a b o : Nat} (ho : o < N + a) (h : a ≤ b) : o ≠ N + b := Nat.ne_of_lt (Nat.lt_of_lt_of_le ho (Nat.add_le_add_left h N))
theorem b_mk {h : xH} {a : Nat} (hs : h.2.1 = a) (t : Nat) {z : Int} {n : Nat} (hz : z = n) (hn : n ≤ 1000000) : ∃ h' : xH, (∀ (W : xWt) M nx l st, xmk W M nx l st h t (Int32.ofInt z) = W M (nx, l, .ref a :: st) h') ∧ h'.2.1 = a + 1 ∧ h'.2.2 = h.2.2 + n ∧ h'.1 a = some (xA t n (xzero t)) ∧ ∀ o, o ≠ a → h'.1 o = h.1 o := by
  subst hz
  subst hs
  have e1 : (Int32.ofInt (n : Int)).toNatClampNeg = n := by rw [j_clamp (by omega) (by omega)]; omega
  refine ⟨xnew h (xA t n (xzero t)) n, fun W M nx l st => ?_, rfl, rfl, ?_, fun o ho => ?_⟩
  · unfold xmk xN
    rw [e1, if_neg ?_]
    rw [show (0 : Int32) = Int32.ofInt 0 from rfl, j_lt (by omega) (by omega) (by omega) (by omega)]
    omega
  · show (if h.2.1 = h.2.1 then _ else _) = _
    rw [if_pos rfl]
  · show (if o = h.2.1 then _ else _) = _
    rw [if_neg ho]
theorem b_new {h : xH} {a : Nat} (hs : h.2.1 = a) (e : xE) (n : Nat) : ∃ h' : xH, xnew h e n = h' ∧ h'.2.1 = a + 1 ∧ h'.2.2 = h.2.2 + n ∧ h'.1 a = some e ∧ ∀ o, o ≠ a → h'.1 o = h.1 o := by
  subst hs
  refine ⟨xnew h e n, rfl, rfl, rfl, ?_, fun o ho => ?_⟩
  · show (if h.2.1 = h.2.1 then _ else _) = _
    rw [if_pos rfl]
  · show (if o = h.2.1 then _ else _) = _
    rw [if_neg ho]
theorem b_pt {h : xH} {o c b kd : Nat} {fs : List Value} {w : Value} (he : h.1 o = some (jO c fs)) (hb : Nat.blt b fs.length = true) (hf : xfit kd w = true) : ∃ h' : xH, xptf (h.1 o) h o c b kd w = some h' ∧ h'.2 = h.2 ∧ h'.1 o = some (jO c (xupd fs b w)) ∧ ∀ q, q ≠ o → h'.1 q = h.1 q := by
  refine ⟨xset h o (jO c (xupd fs b w)), ?_, rfl, j_get _ _ _, fun q hq => j_gne _ _ hq⟩
  rw [he]
  show (bif Nat.beq c c && Nat.blt b fs.length && xfit kd w then some (xset h o (xO' c (xupd fs b w))) else none) = _
  rw [Nat.beq_refl, hb, hf]
  rfl
theorem b_st {h : xH} {o n : Nat} {F : Nat → Int} {z v : Int} (he : h.1 o = some (jA 0 n F)) (hz : 0 ≤ z ∧ z < n ∧ n ≤ 2147483648) : ∃ h' : xH, xstI (h.1 o) h o (Int32.ofInt z) (Int32.ofInt v) = some h' ∧ h'.2 = h.2 ∧ h'.1 o = some (jA 0 n (jup F z.toNat v)) ∧ ∀ q, q ≠ o → h'.1 q = h.1 q := by
  refine ⟨xset h o (jA 0 n (jup F z.toNat v)), ?_, rfl, j_get _ _ _, fun q hq => j_gne _ _ hq⟩
  rw [he, J_stI hz]
theorem b_sR {h : xH} {o o' t c n : Nat} {f : Nat → Option Nat} {fs : List Value} {z : Int} (he : h.1 o = some (jR t n f)) (he' : h.1 o' = some (jO c fs)) (ht : t = 5 + c) (hz : 0 ≤ z ∧ z < n ∧ n ≤ 2147483648) : ∃ h' : xH, xstR (h.1 o) (h.1 o') h o (Int32.ofInt z) o' = some h' ∧ h'.2 = h.2 ∧ h'.1 o = some (jR t n (va_up f z.toNat (some o'))) ∧ ∀ q, q ≠ o → h'.1 q = h.1 q := by
  refine ⟨xset h o (jR t n (va_up f z.toNat (some o'))), ?_, rfl, j_get _ _ _, fun q hq => j_gne _ _ hq⟩
  rw [he, he']
  subst ht
  show (bif Nat.beq (5 + c) (5 + c) then (if Int32.ofInt z < 0 ∨ n ≤ (Int32.ofInt z).toNatClampNeg then none else some (xset h o (xA (5 + c) n (xref (va_up f (Int32.ofInt z).toNatClampNeg (some o')))))) else none) = _
  rw [Nat.beq_refl, if_neg (j_bad hz.1 hz.2.1 hz.2.2), j_clamp (by omega) (by omega)]
  rfl
theorem b_grid {h : xH} {a : Nat} (hs : h.2.1 = a) (ta tb : Nat) {z y : Int} {n k : Nat} (hz : z = n) (hy : y = k) (hn : n ≤ 1000) (hk : k ≤ 1000000) : ∃ h' : xH, (∀ (W : xWt) M nx l st, xmk2 W M nx l st h ta tb (Int32.ofInt z) (Int32.ofInt y) = W M (nx, l, .ref a :: st) h') ∧ h'.2.1 = a + 1 + n ∧ h'.2.2 = h.2.2 + n + n * k ∧ h'.1 a = some (xA ta n (xref (fun j => if j < n then some (a + 1 + j) else none))) ∧ (∀ o, a < o → o ≤ a + n → h'.1 o = some (xA tb k (xzero tb))) ∧ ∀ o, o < a → h'.1 o = h.1 o := by
  subst hz
  subst hy
  subst hs
  have e1 : (Int32.ofInt (n : Int)).toNatClampNeg = n := by rw [j_clamp (by omega) (by omega)]; omega
  have e2 : (Int32.ofInt (k : Int)).toNatClampNeg = k := by rw [j_clamp (by omega) (by omega)]; omega
  refine ⟨xgrid h ta tb n k, fun W M nx l st => ?_, rfl, rfl, ?_, fun o h1 h2 => ?_, fun o ho => ?_⟩
  · unfold xmk2 xN
    rw [e1, e2, if_neg ?_]
    rw [show (0 : Int32) = Int32.ofInt 0 from rfl, j_lt (by omega) (by omega) (by omega) (by omega), j_lt (by omega) (by omega) (by omega) (by omega)]
    omega
  · show (if h.2.1 = h.2.1 then _ else _) = _
    rw [if_pos rfl]
  · show (if o = h.2.1 then _ else if h.2.1 < o ∧ o ≤ h.2.1 + n then _ else _) = _
    rw [if_neg (by omega), if_pos ⟨h1, h2⟩]
  · show (if o = h.2.1 then _ else if h.2.1 < o ∧ o ≤ h.2.1 + n then _ else _) = _
    rw [if_neg (by omega), if_neg (by omega)]
theorem xupd_len (w : Value) : ∀ (fs : List Value) (b : Nat), (xupd fs b w).length = fs.length
  | [], _ => rfl
  | _ :: _, 0 => rfl
  | _ :: t, b + 1 => congrArg (· + 1) (xupd_len w t b)
theorem b_pu {h : xH} {o c b kd L : Nat} {fs : List Value} {w : Value} (he : h.1 o = some (jO c fs)) (hl : fs.length = L) (hb : Nat.blt b L = true) (hf : xfit kd w = true) : ∃ h' : xH, xptf (h.1 o) h o c b kd w = some h' ∧ h'.2 = h.2 ∧ h'.1 o = some (jO c (xupd fs b w)) ∧ (xupd fs b w).length = L ∧ ∀ q, q ≠ o → h'.1 q = h.1 q := by
  subst hl
  obtain ⟨h', a1, a2, a3, a4⟩ := b_pt he hb hf
  exact ⟨h', a1, a2, a3, xupd_len w fs b, a4⟩
