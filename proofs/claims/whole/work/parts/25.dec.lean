/-! the same rules with one side condition each; atoms decided by what is known -/
theorem J_lt {a b : Int} (h : (-2147483648 ≤ a ∧ a < 2147483648) ∧ (-2147483648 ≤ b ∧ b < 2147483648)) : (Int32.ofInt a < Int32.ofInt b) = (a < b) := j_lt h.1.1 h.1.2 h.2.1 h.2.2
theorem J_le {a b : Int} (h : (-2147483648 ≤ a ∧ a < 2147483648) ∧ (-2147483648 ≤ b ∧ b < 2147483648)) : (Int32.ofInt a ≤ Int32.ofInt b) = (a ≤ b) := j_le h.1.1 h.1.2 h.2.1 h.2.2
theorem J_eq {a b : Int} (h : (-2147483648 ≤ a ∧ a < 2147483648) ∧ (-2147483648 ≤ b ∧ b < 2147483648)) : (Int32.ofInt a = Int32.ofInt b) = (a = b) := j_eq h.1.1 h.1.2 h.2.1 h.2.2
theorem J_ldI {n : Nat} {F : Nat → Int} {z : Int} (h : 0 ≤ z ∧ z < n ∧ n ≤ 2147483648) : xldI (some (jA 0 n F)) (Int32.ofInt z) = some (.int (Int32.ofInt (F z.toNat))) := j_ldI h.1 h.2.1 h.2.2
theorem J_ldI3 {n : Nat} {F : Nat → Int} {z : Int} (h : 0 ≤ z ∧ z < n ∧ n ≤ 2147483648) : xldI (some (jA 3 n F)) (Int32.ofInt z) = some (.int (Int32.ofInt (F z.toNat))) := j_ldI3 h.1 h.2.1 h.2.2
theorem J_ldB {n : Nat} {F : Nat → Int} {z : Int} (h : 0 ≤ z ∧ z < n ∧ n ≤ 2147483648) : xldB (some (jA 2 n F)) (Int32.ofInt z) = some (.int (Int32.ofInt (F z.toNat))) := j_ldB h.1 h.2.1 h.2.2
theorem J_ldL {n : Nat} {F : Nat → Int64} {z : Int} (h : 0 ≤ z ∧ z < n ∧ n ≤ 2147483648) : xldL (some (jL n F)) (Int32.ofInt z) = some (.long (F z.toNat)) := j_ldL h.1 h.2.1 h.2.2
theorem J_ldR {t n : Nat} {f : Nat → Option Nat} {z : Int} (h : 0 ≤ z ∧ z < n ∧ n ≤ 2147483648 ∧ 4 ≤ t) : xldR (some (jR t n f)) (Int32.ofInt z) = (f z.toNat).map Value.ref := j_ldR h.1 h.2.1 h.2.2.1 h.2.2.2
theorem J_stI {n : Nat} {F : Nat → Int} {z v : Int} {h : xH} {o : Nat} (h0 : 0 ≤ z ∧ z < n ∧ n ≤ 2147483648) : xstI (some (jA 0 n F)) h o (Int32.ofInt z) (Int32.ofInt v) = some (xset h o (jA 0 n (jup F z.toNat v))) := j_stI h0.1 h0.2.1 h0.2.2
theorem J_stB {n : Nat} {F : Nat → Int} {z v : Int} {h : xH} {o : Nat} (h0 : 0 ≤ z ∧ z < n ∧ n ≤ 2147483648 ∧ (v = 0 ∨ v = 1)) : xstB (some (jA 2 n F)) h o (Int32.ofInt z) (Int32.ofInt v) = some (xset h o (jA 2 n (jup F z.toNat v))) := j_stB h0.1 h0.2.1 h0.2.2.1 h0.2.2.2
theorem J_stL {n : Nat} {F : Nat → Int64} {z : Int} {v : Int64} {h : xH} {o : Nat} (h0 : 0 ≤ z ∧ z < n ∧ n ≤ 2147483648) : xstL (some (jL n F)) h o (Int32.ofInt z) v = some (xset h o (jL n (jupL F z.toNat v))) := j_stL h0.1 h0.2.1 h0.2.2
theorem J_div {a b : Int} (h : (0 ≤ a ∧ a < 2147483648) ∧ (0 ≤ b ∧ b < 2147483648)) : Int32.ofInt a / Int32.ofInt b = Int32.ofInt (a / b) := j_div h.1.1 h.1.2 h.2.1 h.2.2
theorem J_dv {b : Int} {v : Value} (h : b ≠ 0 ∧ (-2147483648 ≤ b ∧ b < 2147483648)) : xdv (Int32.ofInt b) v = some v := by
  unfold xdv
  refine if_neg (fun e => h.1 ?_)
  have e1 : Int32.ofInt b = Int32.ofInt 0 := e
  rw [j_eq h.2.1 h.2.2 (by omega) (by omega)] at e1
  exact e1
theorem J_ltT {a b : Int} (h : a < b) : (a < b) = True := eq_true h
theorem J_ltF {a b : Int} (h : ¬ a < b) : (a < b) = False := eq_false h
theorem J_leT {a b : Int} (h : a ≤ b) : (a ≤ b) = True := eq_true h
theorem J_leF {a b : Int} (h : ¬ a ≤ b) : (a ≤ b) = False := eq_false h
theorem J_eqT {a b : Int} (h : a = b) : (a = b) = True := eq_true h
theorem J_eqF {a b : Int} (h : ¬ a = b) : (a = b) = False := eq_false h
theorem J_ntT {a b : Nat} (h : a < b) : (a < b) = True := eq_true h
theorem J_ntF {a b : Nat} (h : ¬ a < b) : (a < b) = False := eq_false h
