/-! rules for rewriting: shapes, numbers, cells -/
def jA (t n : Nat) (F : Nat → Int) : xE := xA t n (xint fun k => Int32.ofInt (F k))
def jL (n : Nat) (F : Nat → Int64) : xE := xA 1 n (xlng F)
def jR (t n : Nat) (f : Nat → Option Nat) : xE := xA t n (xref f)
def jO (c : Nat) (fs : List Value) : xE := xO' c fs
def jup (F : Nat → Int) (i : Nat) (v : Int) : Nat → Int := fun k => if k = i then v else F k
theorem jup_same (F : Nat → Int) (i : Nat) (v : Int) : jup F i v i = v := by simp [jup]
theorem jup_ne (F : Nat → Int) {i k : Nat} (v : Int) (h : k ≠ i) : jup F i v k = F k := by simp [jup, h]
theorem j_upd (F : Nat → Int) (i : Nat) (v : Int) : upd (fun k => Int32.ofInt (F k)) i (Int32.ofInt v) = fun k => Int32.ofInt (jup F i v k) := by
  funext k
  unfold upd jup
  split <;> rfl
theorem j_lt {a b : Int} (h1 : -2147483648 ≤ a) (h2 : a < 2147483648) (h3 : -2147483648 ≤ b) (h4 : b < 2147483648) : (Int32.ofInt a < Int32.ofInt b) = (a < b) :=
  propext (Int32.ofInt_lt_iff_lt h1 (Int.le_of_lt_add_one h2) h3 (Int.le_of_lt_add_one h4))
theorem j_le {a b : Int} (h1 : -2147483648 ≤ a) (h2 : a < 2147483648) (h3 : -2147483648 ≤ b) (h4 : b < 2147483648) : (Int32.ofInt a ≤ Int32.ofInt b) = (a ≤ b) :=
  propext (Int32.ofInt_le_iff_le h1 (Int.le_of_lt_add_one h2) h3 (Int.le_of_lt_add_one h4))
theorem j_toInt {a : Int} (h1 : -2147483648 ≤ a) (h2 : a < 2147483648) : (Int32.ofInt a).toInt = a := Int32.toInt_ofInt_of_le h1 h2
theorem j_eq {a b : Int} (h1 : -2147483648 ≤ a) (h2 : a < 2147483648) (h3 : -2147483648 ≤ b) (h4 : b < 2147483648) : (Int32.ofInt a = Int32.ofInt b) = (a = b) := by
  refine propext ⟨fun h => ?_, fun h => by rw [h]⟩
  have := congrArg Int32.toInt h
  rwa [j_toInt h1 h2, j_toInt h3 h4] at this
theorem j_clamp {a : Int} (h1 : -2147483648 ≤ a) (h2 : a < 2147483648) : (Int32.ofInt a).toNatClampNeg = a.toNat := Int32.toNatClampNeg_ofInt_of_le h1 h2
theorem j_div {a b : Int} (h1 : 0 ≤ a) (h2 : a < 2147483648) (h3 : 0 ≤ b) (h4 : b < 2147483648) : Int32.ofInt a / Int32.ofInt b = Int32.ofInt (a / b) := by
  rw [← Int.tdiv_eq_ediv_of_nonneg h1]
  exact (Int32.ofInt_tdiv (by show (-2147483648 : Int) ≤ a; omega) (Int.le_of_lt_add_one h2) (by show (-2147483648 : Int) ≤ b; omega) (Int.le_of_lt_add_one h4)).symm
theorem j_tdiv {a b : Int} (h1 : -2147483648 ≤ a) (h2 : a < 2147483648) (h3 : -2147483648 ≤ b) (h4 : b < 2147483648) : Int32.ofInt a / Int32.ofInt b = Int32.ofInt (a.tdiv b) :=
  (Int32.ofInt_tdiv h1 (Int.le_of_lt_add_one h2) h3 (Int.le_of_lt_add_one h4)).symm
theorem j_bad {z : Int} {n : Nat} (h0 : 0 ≤ z) (h1 : z < n) (h2 : n ≤ 2147483648) : ¬ (Int32.ofInt z < 0 ∨ n ≤ (Int32.ofInt z).toNatClampNeg) := by
  have e : (0 : Int32) = Int32.ofInt 0 := rfl
  rw [e, j_lt (by omega) (by omega) (by omega) (by omega), j_clamp (by omega) (by omega)]
  omega
theorem j_ldI {n : Nat} {F : Nat → Int} {z : Int} (h0 : 0 ≤ z) (h1 : z < n) (h2 : n ≤ 2147483648) : xldI (some (jA 0 n F)) (Int32.ofInt z) = some (.int (Int32.ofInt (F z.toNat))) := by
  show (if Int32.ofInt z < 0 ∨ n ≤ (Int32.ofInt z).toNatClampNeg then none else some (Value.int (Int32.ofInt (F (Int32.ofInt z).toNatClampNeg)))) = _
  rw [if_neg (j_bad h0 h1 h2), j_clamp (by omega) (by omega)]
theorem j_ldI3 {n : Nat} {F : Nat → Int} {z : Int} (h0 : 0 ≤ z) (h1 : z < n) (h2 : n ≤ 2147483648) : xldI (some (jA 3 n F)) (Int32.ofInt z) = some (.int (Int32.ofInt (F z.toNat))) := by
  show (if Int32.ofInt z < 0 ∨ n ≤ (Int32.ofInt z).toNatClampNeg then none else some (Value.int (Int32.ofInt (F (Int32.ofInt z).toNatClampNeg)))) = _
  rw [if_neg (j_bad h0 h1 h2), j_clamp (by omega) (by omega)]
theorem j_ldB {n : Nat} {F : Nat → Int} {z : Int} (h0 : 0 ≤ z) (h1 : z < n) (h2 : n ≤ 2147483648) : xldB (some (jA 2 n F)) (Int32.ofInt z) = some (.int (Int32.ofInt (F z.toNat))) := by
  show (if Int32.ofInt z < 0 ∨ n ≤ (Int32.ofInt z).toNatClampNeg then none else some (Value.int (Int32.ofInt (F (Int32.ofInt z).toNatClampNeg)))) = _
  rw [if_neg (j_bad h0 h1 h2), j_clamp (by omega) (by omega)]
theorem j_ldL {n : Nat} {F : Nat → Int64} {z : Int} (h0 : 0 ≤ z) (h1 : z < n) (h2 : n ≤ 2147483648) : xldL (some (jL n F)) (Int32.ofInt z) = some (.long (F z.toNat)) := by
  show (if Int32.ofInt z < 0 ∨ n ≤ (Int32.ofInt z).toNatClampNeg then none else some (Value.long (F (Int32.ofInt z).toNatClampNeg))) = _
  rw [if_neg (j_bad h0 h1 h2), j_clamp (by omega) (by omega)]
theorem j_ldR {t n : Nat} {f : Nat → Option Nat} {z : Int} (h0 : 0 ≤ z) (h1 : z < n) (h2 : n ≤ 2147483648) (h3 : 4 ≤ t) : xldR (some (jR t n f)) (Int32.ofInt z) = (f z.toNat).map Value.ref := by
  show (bif Nat.ble 4 t then (if Int32.ofInt z < 0 ∨ n ≤ (Int32.ofInt z).toNatClampNeg then none else (f (Int32.ofInt z).toNatClampNeg).map Value.ref) else none) = _
  rw [Nat.ble_eq_true_of_le h3]
  show (if Int32.ofInt z < 0 ∨ n ≤ (Int32.ofInt z).toNatClampNeg then none else (f (Int32.ofInt z).toNatClampNeg).map Value.ref) = _
  rw [if_neg (j_bad h0 h1 h2), j_clamp (by omega) (by omega)]
theorem j_stI {n : Nat} {F : Nat → Int} {z v : Int} {h : xH} {o : Nat} (h0 : 0 ≤ z) (h1 : z < n) (h2 : n ≤ 2147483648) : xstI (some (jA 0 n F)) h o (Int32.ofInt z) (Int32.ofInt v) = some (xset h o (jA 0 n (jup F z.toNat v))) := by
  show (if Int32.ofInt z < 0 ∨ n ≤ (Int32.ofInt z).toNatClampNeg then none else some (xset h o (xA 0 n (xint (upd (fun k => Int32.ofInt (F k)) (Int32.ofInt z).toNatClampNeg (Int32.ofInt v)))))) = _
  rw [if_neg (j_bad h0 h1 h2), j_clamp (by omega) (by omega), j_upd]
  rfl
theorem j_stB {n : Nat} {F : Nat → Int} {z v : Int} {h : xH} {o : Nat} (h0 : 0 ≤ z) (h1 : z < n) (h2 : n ≤ 2147483648) (h3 : v = 0 ∨ v = 1) : xstB (some (jA 2 n F)) h o (Int32.ofInt z) (Int32.ofInt v) = some (xset h o (jA 2 n (jup F z.toNat v))) := by
  have e : decide (Int32.ofInt v = 0 ∨ Int32.ofInt v = 1) = true := by rcases h3 with rfl | rfl <;> decide
  show (bif decide (Int32.ofInt v = 0 ∨ Int32.ofInt v = 1) then (if Int32.ofInt z < 0 ∨ n ≤ (Int32.ofInt z).toNatClampNeg then none else some (xset h o (xA 2 n (xint (upd (fun k => Int32.ofInt (F k)) (Int32.ofInt z).toNatClampNeg (Int32.ofInt v)))))) else none) = _
  rw [e]
  show (if Int32.ofInt z < 0 ∨ n ≤ (Int32.ofInt z).toNatClampNeg then none else some (xset h o (xA 2 n (xint (upd (fun k => Int32.ofInt (F k)) (Int32.ofInt z).toNatClampNeg (Int32.ofInt v)))))) = _
  rw [if_neg (j_bad h0 h1 h2), j_clamp (by omega) (by omega), j_upd]
  rfl
def jupL (F : Nat → Int64) (i : Nat) (v : Int64) : Nat → Int64 := fun k => if k = i then v else F k
theorem j_updL (F : Nat → Int64) (i : Nat) (v : Int64) : vp_updL F i v = jupL F i v := by
  funext k
  unfold vp_updL jupL
  rfl
theorem j_stL {n : Nat} {F : Nat → Int64} {z : Int} {v : Int64} {h : xH} {o : Nat} (h0 : 0 ≤ z) (h1 : z < n) (h2 : n ≤ 2147483648) : xstL (some (jL n F)) h o (Int32.ofInt z) v = some (xset h o (jL n (jupL F z.toNat v))) := by
  show (if Int32.ofInt z < 0 ∨ n ≤ (Int32.ofInt z).toNatClampNeg then none else some (xset h o (xA 1 n (xlng (vp_updL F (Int32.ofInt z).toNatClampNeg v))))) = _
  rw [if_neg (j_bad h0 h1 h2), j_clamp (by omega) (by omega), j_updL]
  rfl
theorem j_get (h : xH) (a : Nat) (e : xE) : (xset h a e).1 a = some e := by simp [xset]
theorem j_gne (h : xH) {a q : Nat} (e : xE) (hq : q ≠ a) : (xset h a e).1 q = h.1 q := by simp [xset, hq]
theorem j_ss (h : xH) (a : Nat) (e e' : xE) : xset (xset h a e) a e' = xset h a e' := by
  unfold xset
  congr 1
  funext q
  dsimp only
  split <;> rfl
theorem j_id (h : xH) {a : Nat} {e : xE} (he : h.1 a = some e) : xset h a e = h := by
  unfold xset
  obtain ⟨f, n, s⟩ := h
  congr 1
  funext q
  dsimp only at he ⊢
  split
  · next hq => rw [hq, he]
  · rfl
theorem j_ptf {c b k : Nat} {fs : List Value} {h : xH} {o : Nat} {w : Value} : xptf (some (jO c fs)) h o c b k w = bif Nat.blt b fs.length && xfit k w then some (xset h o (jO c (xupd fs b w))) else none := by
  show (bif Nat.beq c c && Nat.blt b fs.length && xfit k w then _ else _) = _
  rw [Nat.beq_refl]
  rfl
theorem S0 :
    (∀ (W : xWt) M nx l st h v, xpush W M nx l st h (some v) = W M (nx, l, v :: st) h) ∧
    (∀ (W : xWt) M nx l st h, xthn W M nx l st (some h) = W M (nx, l, st) h) ∧
    (∀ (W : xWt) M pc nx l rest h v, xret W M pc nx l rest (some (.inl (some v), h)) = W M (nx, l, v :: rest) h) ∧
    (∀ (W : xWt) M pc nx l rest h, xret W M pc nx l rest (some (.inl none, h)) = W M (nx, l, rest) h) ∧
    (∀ k fs r, xrc k (some (jO k fs)) r = r) ∧
    (∀ c b fs, xfld c b (some (jO c fs)) = xnth fs b) ∧
    (∀ x t, xnth (x :: t) 0 = some x) ∧ (∀ x t n, xnth (x :: t) (n + 1) = xnth t n) ∧
    (∀ x t v, xupd (x :: t) 0 v = v :: t) ∧ (∀ x t n v, xupd (x :: t) (n + 1) v = x :: xupd t n v) ∧
    (∀ x, xkeep (some (.int x)) = some (.int x)) ∧ (∀ x, xkeep (some (.ref x)) = some (.ref x)) ∧ (xkeep none = none) ∧ (∀ x, xkeep (xkeep x) = xkeep x) ∧
    (∀ a b, Int32.ofInt a + Int32.ofInt b = Int32.ofInt (a + b)) ∧ (∀ a b, Int32.ofInt a - Int32.ofInt b = Int32.ofInt (a - b)) ∧ (∀ a b, Int32.ofInt a * Int32.ofInt b = Int32.ofInt (a * b)) ∧ (∀ a, -Int32.ofInt a = Int32.ofInt (-a)) ∧
    (∀ h a e, (xset h a e).1 a = some e) ∧ (∀ h a e e', xset (xset h a e) a e' = xset h a e') ∧ (∀ h a e, (xset h a e).2 = h.2) ∧
    (∀ x, xfit 0 (.int x) = true) ∧ (∀ x, xfit 2 (.ref x) = true) ∧ (xfit 1 (.int (Int32.ofInt 0)) = true) ∧ (xfit 1 (.int (Int32.ofInt 1)) = true) ∧
    (∀ c b k fs h o w, xptf (some (jO c fs)) h o c b k w = bif Nat.blt b fs.length && xfit k w then some (xset h o (jO c (xupd fs b w))) else none) := by
  refine ⟨fun _ _ _ _ _ _ _ => rfl, fun _ _ _ _ _ _ => rfl, fun _ _ _ _ _ _ _ _ => rfl, fun _ _ _ _ _ _ _ => rfl, fun k fs r => ?_, fun c b fs => ?_, fun _ _ => rfl, fun _ _ _ => rfl, fun _ _ _ => rfl, fun _ _ _ _ => rfl, fun _ => rfl, fun _ => rfl, rfl, fun x => ?_,
    fun a b => (Int32.ofInt_add a b).symm, fun a b => (Int32.ofInt_sub a b).symm, fun a b => (Int32.ofInt_mul a b).symm, fun a => (Int32.ofInt_neg a).symm, j_get, j_ss, fun _ _ _ => rfl, fun _ => rfl, fun _ => rfl, by decide, by decide, fun _ _ _ _ _ _ _ => j_ptf⟩
  · show xB (Nat.beq k k) r = r
    rw [Nat.beq_refl]
    rfl
  · show (bif Nat.beq c c then xnth fs b else none) = _
    rw [Nat.beq_refl]
    rfl
  · rcases x with _ | v
    · rfl
    · cases v <;> rfl
theorem j_rx {W : xWt} {M : xM} {pc nx : Nat} {l : List (Option Value)} {rest : List Value} {e : Nat × Nat} {h : xH} (hx : xhs M = []) : xret W M pc nx l rest (some (.inr e, h)) = some (.inr e, h) := by
  obtain ⟨c, a⟩ := e
  show xback W M pc nx l rest (.inr (c, a), h) = _
  unfold xback
  rw [hx]
abbrev xFix (V : Nat → Value) (W : xWt) : Prop := ∀ M f h, W M f h = xbody V xF0 xG W M f h
def jX (c : Nat) (h : xH) : Option xR := some (.inr (c, h.2.1), xnew h (xO' c []) 6)
abbrev j32 (a : Int) : Prop := -2147483648 ≤ a ∧ a < 2147483648
