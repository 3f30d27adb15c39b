/-! A small machine over the method's own instructions: its heap is a function from addresses to pictures of cells; what an instruction names stands beside it. -/
abbrev xE : Type := (Nat × vp_A) ⊕ (Nat × List Value)
abbrev xH : Type := (Nat → Option xE) × Nat × Nat
abbrev xF : Type := Nat × List (Option Value) × List Value
/-- an instruction, the next pc, two numbers, a value, places in the list of words -/
abbrev xI : Type := Instr × Nat × Nat × Nat × Value × List Nat
abbrev xO : Type := Option Value ⊕ (Nat × Nat)
abbrev xR : Type := xO × xH
/-- code by pc; handlers (from, to, at, the entry that names the kind, the kind); size of the frame; name; bytes; result; frames and words of room -/
abbrev xM : Type := (Nat → Option xI) × List (Nat × Nat × Nat × Nat × Nat) × Nat × MethodName × ByteArray × Option FieldType × Nat × Nat
abbrev xcd (M : xM) : Nat → Option xI := M.1
abbrev xhs (M : xM) : List (Nat × Nat × Nat × Nat × Nat) := M.2.1
abbrev xml (M : xM) : Nat := M.2.2.1
abbrev xnm (M : xM) : MethodName := M.2.2.2.1
abbrev xby (M : xM) : ByteArray := M.2.2.2.2.1
abbrev xrt (M : xM) : Option FieldType := M.2.2.2.2.2.1
abbrev xdp (M : xM) : Nat := M.2.2.2.2.2.2.1
abbrev xlc (M : xM) : Nat := M.2.2.2.2.2.2.2
def xlk1 : List (Nat × xI) → Nat → Option xI
  | [], _ => none
  | (k, e) :: t, pc => bif Nat.beq k pc then some e else xlk1 t pc
def xlk : List (Nat × List (Nat × xI)) → Nat → Option xI
  | [], _ => none
  | (b, c) :: t, pc => bif Nat.blt pc b then xlk1 c pc else xlk t pc
def xset (h : xH) (a : Nat) (e : xE) : xH := (fun q => if q = a then some e else h.1 q, h.2.1, h.2.2)
def xnew (h : xH) (e : xE) (n : Nat) : xH := (fun q => if q = h.2.1 then some e else h.1 q, h.2.1 + 1, h.2.2 + n)
def xget : List (Option Value) → Nat → Option Value
  | [], _ => none
  | x :: _, 0 => x
  | _ :: t, i + 1 => xget t i
def xnth : List Value → Nat → Option Value
  | [], _ => none
  | x :: _, 0 => some x
  | _ :: t, i + 1 => xnth t i
def xupd : List Value → Nat → Value → List Value
  | [], _, _ => []
  | _ :: t, 0, v => v :: t
  | x :: t, i + 1, v => x :: xupd t i v
/-- what stays of the slot in front of a slot that is written -/
def xkeep : Option Value → Option Value
  | some (.int x) => some (.int x)
  | some (.ref x) => some (.ref x)
  | some .null => some .null
  | _ => none
def xst1 (v : Value) : Nat → List (Option Value) → Option (List (Option Value))
  | 0, _ :: t => some (some v :: t)
  | 1, x :: _ :: t => some (xkeep x :: some v :: t)
  | i + 2, x :: t => match xst1 v (i + 1) t with
    | some t' => some (x :: t')
    | none => none
  | _, _ => none
def xst2 (v : Value) : Nat → List (Option Value) → Option (List (Option Value))
  | 0, _ :: _ :: t => some (some v :: none :: t)
  | 1, x :: _ :: _ :: t => some (xkeep x :: some v :: none :: t)
  | i + 2, x :: t => match xst2 v (i + 1) t with
    | some t' => some (x :: t')
    | none => none
  | _, _ => none
/-- the slots with which a method begins -/
def xpad : Nat → Bool → List Value → List (Option Value)
  | 0, _, _ => []
  | n + 1, true, vs => none :: xpad n false vs
  | n + 1, false, [] => none :: xpad n false []
  | n + 1, false, v :: vs => some v :: xpad n (v.category == 2) vs
def xpop : Nat → List Value → List Value → Option (List Value × List Value)
  | 0, acc, st => some (acc, st)
  | n + 1, acc, v :: st => xpop n (v :: acc) st
  | _ + 1, _, [] => none
def xwt : List Value → Nat
  | [] => 0
  | v :: t => v.category + xwt t
def xif (c : ClassFile.Cond) (x y : Int32) (A B : Option xR) : Option xR := match c with
  | .eq => if x = y then A else B
  | .ne => if x = y then B else A
  | .lt => if x < y then A else B
  | .ge => if y ≤ x then A else B
  | .gt => if y < x then A else B
  | .le => if x ≤ y then A else B
def xhd : List (Nat × Nat × Nat × Nat × Nat) → Nat → Nat → Option Nat
  | [], _, _ => none
  | (s, e, p, _, k) :: t, pc, c => bif Nat.ble s pc && Nat.blt pc e && Nat.beq k c then some p else xhd t pc c
/-- which field types: 0 an int, 1 a boolean, 2 a reference -/
def xfit : Nat → Value → Bool
  | 0, .int _ => true
  | 1, .int x => decide (x = 0 ∨ x = 1)
  | 2, .ref _ => true
  | _, _ => false
/-- the arrays' kinds: 0 int, 1 long, 2 boolean, 3 an int array that is only read, 4 int arrays, 5 + c objects of the kind c -/
abbrev xint (f : Nat → Int32) : (Nat → Int32) ⊕ (Nat → Int64) ⊕ (Nat → UInt32) ⊕ (Nat → UInt64) ⊕ (Nat → Option Nat) := .inl f
abbrev xlng (f : Nat → Int64) : (Nat → Int32) ⊕ (Nat → Int64) ⊕ (Nat → UInt32) ⊕ (Nat → UInt64) ⊕ (Nat → Option Nat) := .inr (.inl f)
abbrev xref (f : Nat → Option Nat) : (Nat → Int32) ⊕ (Nat → Int64) ⊕ (Nat → UInt32) ⊕ (Nat → UInt64) ⊕ (Nat → Option Nat) := .inr (.inr (.inr (.inr f)))
def xzero : Nat → (Nat → Int32) ⊕ (Nat → Int64) ⊕ (Nat → UInt32) ⊕ (Nat → UInt64) ⊕ (Nat → Option Nat)
  | 0 => xint (fun _ => 0)
  | 1 => xlng (fun _ => 0)
  | 2 => xint (fun _ => 0)
  | _ => xref (fun _ => none)
abbrev xA (t n : Nat) (c : (Nat → Int32) ⊕ (Nat → Int64) ⊕ (Nat → UInt32) ⊕ (Nat → UInt64) ⊕ (Nat → Option Nat)) : xE := .inl (t, n, c)
abbrev xO' (c : Nat) (fs : List Value) : xE := .inr (c, fs)
def xgrid (h : xH) (ta tb n k : Nat) : xH :=
  (fun q => if q = h.2.1 then some (xA ta n (xref (fun j => if j < n then some (h.2.1 + 1 + j) else none))) else if h.2.1 < q ∧ q ≤ h.2.1 + n then some (xA tb k (xzero tb)) else h.1 q, h.2.1 + 1 + n, h.2.2 + n + n * k)
/-! the shapes of a stack, of a cell -/
def xI1 (st : List Value) (k : Int32 → List Value → Option xR) : Option xR := match st with
  | .int x :: t => k x t
  | _ => none
def xI2 (st : List Value) (k : Int32 → Int32 → List Value → Option xR) : Option xR := match st with
  | .int y :: .int x :: t => k x y t
  | _ => none
def xL1 (st : List Value) (k : Int64 → List Value → Option xR) : Option xR := match st with
  | .long x :: t => k x t
  | _ => none
def xL2 (st : List Value) (k : Int64 → Int64 → List Value → Option xR) : Option xR := match st with
  | .long y :: .long x :: t => k x y t
  | _ => none
def xLI (st : List Value) (k : Int64 → Int32 → List Value → Option xR) : Option xR := match st with
  | .int y :: .long x :: t => k x y t
  | _ => none
def xA1 (st : List Value) (k : Nat → List Value → Option xR) : Option xR := match st with
  | .ref o :: t => k o t
  | _ => none
def xAI (st : List Value) (k : Nat → Int32 → List Value → Option xR) : Option xR := match st with
  | .int j :: .ref o :: t => k o j t
  | _ => none
def xAII (st : List Value) (k : Nat → Int32 → Int32 → List Value → Option xR) : Option xR := match st with
  | .int x :: .int j :: .ref o :: t => k o j x t
  | _ => none
def xAIL (st : List Value) (k : Nat → Int32 → Int64 → List Value → Option xR) : Option xR := match st with
  | .long x :: .int j :: .ref o :: t => k o j x t
  | _ => none
def xAIA (st : List Value) (k : Nat → Int32 → Nat → List Value → Option xR) : Option xR := match st with
  | .ref w :: .int j :: .ref o :: t => k o j w t
  | _ => none
def xAV (st : List Value) (k : Nat → Value → List Value → Option xR) : Option xR := match st with
  | w :: .ref o :: t => k o w t
  | _ => none
def xcopy (st : List Value) (k : Nat → Int32 → Nat → Int32 → Int32 → List Value → Option xR) : Option xR := match st with
  | .int n :: .int dp :: .ref d :: .int sp :: .ref s :: t => k s sp d dp n t
  | _ => none
def xvI (o : Option Value) (k : Int32 → Option xR) : Option xR := match o with
  | some (.int x) => k x
  | _ => none
def xvL (o : Option Value) (k : Int64 → Option xR) : Option xR := match o with
  | some (.long x) => k x
  | _ => none
def xvA (o : Option Value) (k : Nat → Option xR) : Option xR := match o with
  | some (.ref x) => k x
  | _ => none
def xvN (o : Value) (k : Int32 → Option xR) : Option xR := match o with
  | .int x => k x
  | _ => none
def xvK (o : Value) (k : Nat → Option xR) : Option xR := match o with
  | .retAddr x => k x
  | _ => none
def xS {α : Type} (o : Option α) (k : α → Option xR) : Option xR := match o with
  | some x => k x
  | none => none
def xB (b : Bool) (k : Option xR) : Option xR := match b with
  | true => k
  | false => none
def xN (c : Prop) [Decidable c] (k : Option xR) : Option xR := if c then none else k
def xcI (o : Option xE) (k : Nat → Nat → (Nat → Int32) → Option xR) : Option xR := match o with
  | some (.inl (t, n, .inl g)) => k t n g
  | _ => none
def xcL (o : Option xE) (k : Nat → Nat → (Nat → Int64) → Option xR) : Option xR := match o with
  | some (.inl (t, n, .inr (.inl g))) => k t n g
  | _ => none
def xcR (o : Option xE) (k : Nat → Nat → (Nat → Option Nat) → Option xR) : Option xR := match o with
  | some (.inl (t, n, .inr (.inr (.inr (.inr g))))) => k t n g
  | _ => none
def xcA (o : Option xE) (k : Nat → Option xR) : Option xR := match o with
  | some (.inl (_, n, _)) => k n
  | _ => none
def xcO (o : Option xE) (k : Nat → List Value → Option xR) : Option xR := match o with
  | some (.inr (c, fs)) => k c fs
  | _ => none
def xcat1 : Value → Bool
  | .int _ => true
  | .ref _ => true
  | .null => true
  | _ => false
/-- behind a call -/
def xback (ih : xM → xF → xH → Option xR) (M : xM) (pc nx : Nat) (l : List (Option Value)) (rest : List Value) (r : xR) : Option xR := match r with
  | (.inl none, h) => ih M (nx, l, rest) h
  | (.inl (some v), h) => ih M (nx, l, v :: rest) h
  | (.inr (c, a), h) => match xhs M with
    | [] => some (.inr (c, a), h)
    | t => xS (xhd t pc c) fun p => ih M (p, l, [.ref a]) h
def xcall (G : Nat → xM) (ih : xM → xF → xH → Option xR) (M : xM) (pc nx : Nat) (l : List (Option Value)) (z : Nat) (as rest : List Value) (h : xH) : Option xR :=
  xB (Nat.ble (xwt rest) 8 && Nat.ble (xwt as) (xml (G z))) (xS (ih (G z) (0, xpad (xml (G z)) false as, []) h) fun r => xback ih M pc nx l rest r)
def xop (V : Nat → Value) (F : Nat → List Value) (G : Nat → xM) (ih : xM → xF → xH → Option xR) (M : xM) (f : xF) (h : xH) (i : Instr) (nx a b : Nat) (v : Value) : Option xR :=
  match i with
  | .iconst _ => ih M (nx, f.2.1, v :: f.2.2) h
  | .bipush _ => ih M (nx, f.2.1, v :: f.2.2) h
  | .sipush _ => ih M (nx, f.2.1, v :: f.2.2) h
  | .lconst _ => ih M (nx, f.2.1, v :: f.2.2) h
  | .ldc _ => ih M (nx, f.2.1, v :: f.2.2) h
  | .ldc_w _ => ih M (nx, f.2.1, v :: f.2.2) h
  | .ldc2_w _ => ih M (nx, f.2.1, v :: f.2.2) h
  | .getstatic _ => ih M (nx, f.2.1, V a :: f.2.2) h
  | .iload _ => xvI (xget f.2.1 a) fun x => ih M (nx, f.2.1, .int x :: f.2.2) h
  | .iload_n _ => xvI (xget f.2.1 a) fun x => ih M (nx, f.2.1, .int x :: f.2.2) h
  | .lload _ => xvL (xget f.2.1 a) fun x => ih M (nx, f.2.1, .long x :: f.2.2) h
  | .lload_n _ => xvL (xget f.2.1 a) fun x => ih M (nx, f.2.1, .long x :: f.2.2) h
  | .aload _ => xvA (xget f.2.1 a) fun x => ih M (nx, f.2.1, .ref x :: f.2.2) h
  | .aload_n _ => xvA (xget f.2.1 a) fun x => ih M (nx, f.2.1, .ref x :: f.2.2) h
  | .istore _ => xI1 f.2.2 fun x st => xS (xst1 (.int x) a f.2.1) fun l => ih M (nx, l, st) h
  | .istore_n _ => xI1 f.2.2 fun x st => xS (xst1 (.int x) a f.2.1) fun l => ih M (nx, l, st) h
  | .astore _ => xA1 f.2.2 fun x st => xS (xst1 (.ref x) a f.2.1) fun l => ih M (nx, l, st) h
  | .astore_n _ => xA1 f.2.2 fun x st => xS (xst1 (.ref x) a f.2.1) fun l => ih M (nx, l, st) h
  | .lstore _ => xL1 f.2.2 fun x st => xS (xst2 (.long x) a f.2.1) fun l => ih M (nx, l, st) h
  | .lstore_n _ => xL1 f.2.2 fun x st => xS (xst2 (.long x) a f.2.1) fun l => ih M (nx, l, st) h
  | .iinc _ _ => xvI (xget f.2.1 a) fun x => xvN v fun c => xS (xst1 (.int (x + c)) a f.2.1) fun l => ih M (nx, l, f.2.2) h
  | .iadd => xI2 f.2.2 fun x y st => ih M (nx, f.2.1, .int (x + y) :: st) h
  | .isub => xI2 f.2.2 fun x y st => ih M (nx, f.2.1, .int (x - y) :: st) h
  | .imul => xI2 f.2.2 fun x y st => ih M (nx, f.2.1, .int (x * y) :: st) h
  | .iand => xI2 f.2.2 fun x y st => ih M (nx, f.2.1, .int (x &&& y) :: st) h
  | .ior => xI2 f.2.2 fun x y st => ih M (nx, f.2.1, .int (x ||| y) :: st) h
  | .ixor => xI2 f.2.2 fun x y st => ih M (nx, f.2.1, .int (x ^^^ y) :: st) h
  | .ishl => xI2 f.2.2 fun x y st => ih M (nx, f.2.1, .int (x <<< (y &&& 31)) :: st) h
  | .ishr => xI2 f.2.2 fun x y st => ih M (nx, f.2.1, .int (x >>> (y &&& 31)) :: st) h
  | .iushr => xI2 f.2.2 fun x y st => ih M (nx, f.2.1, .int ((x.toUInt32 >>> (y.toUInt32 &&& Int32.toUInt32 31)).toInt32) :: st) h
  | .idiv => xI2 f.2.2 fun x y st => xN (y = 0) (ih M (nx, f.2.1, .int (x / y) :: st) h)
  | .irem => xI2 f.2.2 fun x y st => xN (y = 0) (ih M (nx, f.2.1, .int (x - x / y * y) :: st) h)
  | .ineg => xI1 f.2.2 fun x st => ih M (nx, f.2.1, .int (-x) :: st) h
  | .ladd => xL2 f.2.2 fun x y st => ih M (nx, f.2.1, .long (x + y) :: st) h
  | .lsub => xL2 f.2.2 fun x y st => ih M (nx, f.2.1, .long (x - y) :: st) h
  | .land => xL2 f.2.2 fun x y st => ih M (nx, f.2.1, .long (x &&& y) :: st) h
  | .lor => xL2 f.2.2 fun x y st => ih M (nx, f.2.1, .long (x ||| y) :: st) h
  | .lshl => xLI f.2.2 fun x y st => ih M (nx, f.2.1, .long (x <<< (y.toInt64 &&& 63)) :: st) h
  | .lushr => xLI f.2.2 fun x y st => ih M (nx, f.2.1, .long ((x.toUInt64 >>> (y.toInt64.toUInt64 &&& Int64.toUInt64 63)).toInt64) :: st) h
  | .lcmp => xL2 f.2.2 fun x y st => ih M (nx, f.2.1, .int (lg_cmp x y) :: st) h
  | .i2l => xI1 f.2.2 fun x st => ih M (nx, f.2.1, .long x.toInt64 :: st) h
  | .l2i => xL1 f.2.2 fun x st => ih M (nx, f.2.1, .int x.toInt32 :: st) h
  | .dup => match f.2.2 with
    | w :: st => xB (xcat1 w) (ih M (nx, f.2.1, w :: w :: st) h)
    | _ => none
  | .dup2 => match f.2.2 with
    | w :: u :: st => xB (xcat1 w && xcat1 u) (ih M (nx, f.2.1, w :: u :: w :: u :: st) h)
    | _ => none
  | .dup_x1 => match f.2.2 with
    | w :: u :: st => xB (xcat1 w && xcat1 u) (ih M (nx, f.2.1, w :: u :: w :: st) h)
    | _ => none
  | .dup_x2 => match f.2.2 with
    | w :: u :: t :: st => xB (xcat1 w && xcat1 u && xcat1 t) (ih M (nx, f.2.1, w :: u :: t :: w :: st) h)
    | _ => none
  | .pop => match f.2.2 with
    | w :: st => xB (xcat1 w) (ih M (nx, f.2.1, st) h)
    | _ => none
  | .ifCond c _ => xI1 f.2.2 fun x st => xif c x 0 (ih M (a, f.2.1, st) h) (ih M (nx, f.2.1, st) h)
  | .if_icmp c _ => xI2 f.2.2 fun x y st => xif c x y (ih M (a, f.2.1, st) h) (ih M (nx, f.2.1, st) h)
  | .goto _ => ih M (a, f.2.1, f.2.2) h
  | .tableswitch _ lo hi offs => xI1 f.2.2 fun x st => if x.toInt < lo ∨ hi < x.toInt then ih M (a, f.2.1, st) h else
      xS offs[(x.toInt - lo).toNat]? fun o => xN ((f.1 : Int) + o < 0) (ih M (((f.1 : Int) + o).toNat, f.2.1, st) h)
  | .ireturn => match f.2.2, xrt M with
    | [.int x], some .int => some (.inl (some (.int x)), h)
    | [.int x], some .boolean => xB (decide (x = 0 ∨ x = 1)) (some (.inl (some (.int x)), h))
    | _, _ => none
  | .lreturn => match f.2.2, xrt M with
    | [.long x], some .long => some (.inl (some (.long x)), h)
    | _, _ => none
  | .areturn => match f.2.2, xrt M with
    | [.ref x], some (.object _) => some (.inl (some (.ref x)), h)
    | [.ref x], some (.array _) => some (.inl (some (.ref x)), h)
    | _, _ => none
  | .return_ => match f.2.2, xrt M with
    | [], none => some (.inl none, h)
    | _, _ => none
  | .getfield _ => xA1 f.2.2 fun o st => xcO (h.1 o) fun c fs => xB (Nat.beq c a) (xS (xnth fs b) fun w => ih M (nx, f.2.1, w :: st) h)
  | .putfield _ => xAV f.2.2 fun o w st => xvK v fun k => xcO (h.1 o) fun c fs => xB (Nat.beq c a && Nat.blt b fs.length && xfit k w) (ih M (nx, f.2.1, st) (xset h o (xO' c (xupd fs b w))))
  | .iaload => xAI f.2.2 fun o j st => xcI (h.1 o) fun t n g => xB (Nat.beq t 0 || Nat.beq t 3) (xN (j < 0 ∨ n ≤ j.toNatClampNeg) (ih M (nx, f.2.1, .int (g j.toNatClampNeg) :: st) h))
  | .baload => xAI f.2.2 fun o j st => xcI (h.1 o) fun t n g => xB (Nat.beq t 2) (xN (j < 0 ∨ n ≤ j.toNatClampNeg) (ih M (nx, f.2.1, .int (g j.toNatClampNeg) :: st) h))
  | .laload => xAI f.2.2 fun o j st => xcL (h.1 o) fun t n g => xB (Nat.beq t 1) (xN (j < 0 ∨ n ≤ j.toNatClampNeg) (ih M (nx, f.2.1, .long (g j.toNatClampNeg) :: st) h))
  | .aaload => xAI f.2.2 fun o j st => xcR (h.1 o) fun t n g => xB (Nat.ble 4 t) (xN (j < 0 ∨ n ≤ j.toNatClampNeg) (xS (g j.toNatClampNeg) fun w => ih M (nx, f.2.1, .ref w :: st) h))
  | .iastore => xAII f.2.2 fun o j x st => xcI (h.1 o) fun t n g => xB (Nat.beq t 0) (xN (j < 0 ∨ n ≤ j.toNatClampNeg) (ih M (nx, f.2.1, st) (xset h o (xA t n (xint (upd g j.toNatClampNeg x))))))
  | .bastore => xAII f.2.2 fun o j x st => xcI (h.1 o) fun t n g => xB (Nat.beq t 2 && decide (x = 0 ∨ x = 1)) (xN (j < 0 ∨ n ≤ j.toNatClampNeg) (ih M (nx, f.2.1, st) (xset h o (xA t n (xint (upd g j.toNatClampNeg x))))))
  | .lastore => xAIL f.2.2 fun o j x st => xcL (h.1 o) fun t n g => xB (Nat.beq t 1) (xN (j < 0 ∨ n ≤ j.toNatClampNeg) (ih M (nx, f.2.1, st) (xset h o (xA t n (xlng (vp_updL g j.toNatClampNeg x))))))
  | .aastore => xAIA f.2.2 fun o j w st => xcR (h.1 o) fun t n g => xcO (h.1 w) fun c _ => xB (Nat.beq t (5 + c)) (xN (j < 0 ∨ n ≤ j.toNatClampNeg) (ih M (nx, f.2.1, st) (xset h o (xA t n (xref (va_up g j.toNatClampNeg (some w)))))))
  | .arraylength => xA1 f.2.2 fun o st => xcA (h.1 o) fun n => ih M (nx, f.2.1, .int (Int32.ofNat n) :: st) h
  | .newarray _ => xI1 f.2.2 fun n st => xN (n < 0 ∨ 1000000 < n.toNatClampNeg) (ih M (nx, f.2.1, .ref h.2.1 :: st) (xnew h (xA a n.toNatClampNeg (xzero a)) n.toNatClampNeg))
  | .anewarray _ => xI1 f.2.2 fun n st => xN (n < 0 ∨ 1000000 < n.toNatClampNeg) (ih M (nx, f.2.1, .ref h.2.1 :: st) (xnew h (xA a n.toNatClampNeg (xzero a)) n.toNatClampNeg))
  | .multianewarray _ _ => xI2 f.2.2 fun n k st => xN (n < 0 ∨ 1000 < n.toNatClampNeg ∨ k < 0 ∨ 1000000 < k.toNatClampNeg) (ih M (nx, f.2.1, .ref h.2.1 :: st) (xgrid h a b n.toNatClampNeg k.toNatClampNeg))
  | .new _ => match v with
    | .null => match f.2.2 with
      | [] => some (.inr (a, h.2.1), xnew h (xO' a []) b)
      | _ => none
    | _ => ih M (nx, f.2.1, .ref h.2.1 :: f.2.2) (xnew h (xO' a (F a)) b)
  | .invokestatic _ => match v with
    | .retAddr _ => xcopy f.2.2 fun s sp d dp n st => xcI (h.1 s) fun t n0 g => xcI (h.1 d) fun t' n1 g' => xB (Nat.beq t 0 && Nat.beq t' 0)
        (xN (sp < 0 ∨ dp < 0 ∨ n < 0 ∨ n0 < sp.toNatClampNeg + n.toNatClampNeg ∨ n1 < dp.toNatClampNeg + n.toNatClampNeg)
          (xB (Nat.ble (xwt st) 8) (ih M (nx, f.2.1, st) (xset h d (xA t' n1 (xint (va_cpy g g' sp.toNatClampNeg dp.toNatClampNeg n.toNatClampNeg)))))))
    | _ => xS (xpop b [] f.2.2) fun q => xcall G ih M f.1 nx f.2.1 a q.1 q.2 h
  | .invokevirtual _ => xS (xpop b [] f.2.2) fun q => match q.1 with
    | .ref o :: as => xvK v fun k => xcO (h.1 o) fun c _ => xB (Nat.beq c k) (xcall G ih M f.1 nx f.2.1 a (.ref o :: as) q.2 h)
    | _ => none
  | .invokespecial _ => match v with
    | .null => xA1 f.2.2 fun _ st => xB (Nat.ble (xwt st) 8) (ih M (nx, f.2.1, st) h)
    | _ => xS (xpop b [] f.2.2) fun q => match q.1 with
      | .ref o :: as => xcall G ih M f.1 nx f.2.1 a (.ref o :: as) q.2 h
      | _ => none
  | _ => none
def xbody (V : Nat → Value) (F : Nat → List Value) (G : Nat → xM) (ih : xM → xF → xH → Option xR) (M : xM) (f : xF) (h : xH) : Option xR :=
  xS (xcd M f.1) fun q => xop V F G ih M f h q.1 q.2.1 q.2.2.1 q.2.2.2.1 q.2.2.2.2.1
def xrun (V : Nat → Value) (F : Nat → List Value) (G : Nat → xM) (n : Nat) : xM → xF → xH → Option xR :=
  Nat.rec (fun _ _ _ => none) (fun _ ih => xbody V F G ih) n
theorem xrun_succ (V : Nat → Value) (F : Nat → List Value) (G : Nat → xM) (n : Nat) : xrun V F G (n + 1) = xbody V F G (xrun V F G n) := rfl
/-! what a success says -/
theorem xI1_s {st : List Value} {k : Int32 → List Value → Option xR} {r : xR} (h : xI1 st k = some r) : ∃ x t, st = .int x :: t ∧ k x t = some r := by
  unfold xI1 at h; split at h
  · exact ⟨_, _, rfl, h⟩
  · cases h
theorem xI2_s {st : List Value} {k : Int32 → Int32 → List Value → Option xR} {r : xR} (h : xI2 st k = some r) : ∃ x y t, st = .int y :: .int x :: t ∧ k x y t = some r := by
  unfold xI2 at h; split at h
  · exact ⟨_, _, _, rfl, h⟩
  · cases h
theorem xL1_s {st : List Value} {k : Int64 → List Value → Option xR} {r : xR} (h : xL1 st k = some r) : ∃ x t, st = .long x :: t ∧ k x t = some r := by
  unfold xL1 at h; split at h
  · exact ⟨_, _, rfl, h⟩
  · cases h
theorem xL2_s {st : List Value} {k : Int64 → Int64 → List Value → Option xR} {r : xR} (h : xL2 st k = some r) : ∃ x y t, st = .long y :: .long x :: t ∧ k x y t = some r := by
  unfold xL2 at h; split at h
  · exact ⟨_, _, _, rfl, h⟩
  · cases h
theorem xLI_s {st : List Value} {k : Int64 → Int32 → List Value → Option xR} {r : xR} (h : xLI st k = some r) : ∃ x y t, st = .int y :: .long x :: t ∧ k x y t = some r := by
  unfold xLI at h; split at h
  · exact ⟨_, _, _, rfl, h⟩
  · cases h
theorem xA1_s {st : List Value} {k : Nat → List Value → Option xR} {r : xR} (h : xA1 st k = some r) : ∃ o t, st = .ref o :: t ∧ k o t = some r := by
  unfold xA1 at h; split at h
  · exact ⟨_, _, rfl, h⟩
  · cases h
theorem xAI_s {st : List Value} {k : Nat → Int32 → List Value → Option xR} {r : xR} (h : xAI st k = some r) : ∃ o j t, st = .int j :: .ref o :: t ∧ k o j t = some r := by
  unfold xAI at h; split at h
  · exact ⟨_, _, _, rfl, h⟩
  · cases h
theorem xAII_s {st : List Value} {k : Nat → Int32 → Int32 → List Value → Option xR} {r : xR} (h : xAII st k = some r) : ∃ o j x t, st = .int x :: .int j :: .ref o :: t ∧ k o j x t = some r := by
  unfold xAII at h; split at h
  · exact ⟨_, _, _, _, rfl, h⟩
  · cases h
theorem xAIL_s {st : List Value} {k : Nat → Int32 → Int64 → List Value → Option xR} {r : xR} (h : xAIL st k = some r) : ∃ o j x t, st = .long x :: .int j :: .ref o :: t ∧ k o j x t = some r := by
  unfold xAIL at h; split at h
  · exact ⟨_, _, _, _, rfl, h⟩
  · cases h
theorem xAIA_s {st : List Value} {k : Nat → Int32 → Nat → List Value → Option xR} {r : xR} (h : xAIA st k = some r) : ∃ o j w t, st = .ref w :: .int j :: .ref o :: t ∧ k o j w t = some r := by
  unfold xAIA at h; split at h
  · exact ⟨_, _, _, _, rfl, h⟩
  · cases h
theorem xAV_s {st : List Value} {k : Nat → Value → List Value → Option xR} {r : xR} (h : xAV st k = some r) : ∃ o w t, st = w :: .ref o :: t ∧ k o w t = some r := by
  unfold xAV at h; split at h
  · exact ⟨_, _, _, rfl, h⟩
  · cases h
theorem xcopy_s {st : List Value} {k : Nat → Int32 → Nat → Int32 → Int32 → List Value → Option xR} {r : xR} (h : xcopy st k = some r) : ∃ s sp d dp n t, st = .int n :: .int dp :: .ref d :: .int sp :: .ref s :: t ∧ k s sp d dp n t = some r := by
  unfold xcopy at h; split at h
  · exact ⟨_, _, _, _, _, _, rfl, h⟩
  · cases h
theorem xvI_s {o : Option Value} {k : Int32 → Option xR} {r : xR} (h : xvI o k = some r) : ∃ x, o = some (.int x) ∧ k x = some r := by
  unfold xvI at h; split at h
  · exact ⟨_, rfl, h⟩
  · cases h
theorem xvL_s {o : Option Value} {k : Int64 → Option xR} {r : xR} (h : xvL o k = some r) : ∃ x, o = some (.long x) ∧ k x = some r := by
  unfold xvL at h; split at h
  · exact ⟨_, rfl, h⟩
  · cases h
theorem xvA_s {o : Option Value} {k : Nat → Option xR} {r : xR} (h : xvA o k = some r) : ∃ x, o = some (.ref x) ∧ k x = some r := by
  unfold xvA at h; split at h
  · exact ⟨_, rfl, h⟩
  · cases h
theorem xvN_s {o : Value} {k : Int32 → Option xR} {r : xR} (h : xvN o k = some r) : ∃ x, o = .int x ∧ k x = some r := by
  unfold xvN at h; split at h
  · exact ⟨_, rfl, h⟩
  · cases h
theorem xvK_s {o : Value} {k : Nat → Option xR} {r : xR} (h : xvK o k = some r) : ∃ x, o = .retAddr x ∧ k x = some r := by
  unfold xvK at h; split at h
  · exact ⟨_, rfl, h⟩
  · cases h
theorem xS_s {α : Type} {o : Option α} {k : α → Option xR} {r : xR} (h : xS o k = some r) : ∃ x, o = some x ∧ k x = some r := by
  unfold xS at h; split at h
  · exact ⟨_, rfl, h⟩
  · cases h
theorem xB_s {b : Bool} {k : Option xR} {r : xR} (h : xB b k = some r) : b = true ∧ k = some r := by
  unfold xB at h; split at h
  · exact ⟨rfl, h⟩
  · cases h
theorem xN_s {c : Prop} [Decidable c] {k : Option xR} {r : xR} (h : xN c k = some r) : ¬ c ∧ k = some r := by
  unfold xN at h; split at h
  · cases h
  · next hc => exact ⟨hc, h⟩
theorem xcI_s {o : Option xE} {k : Nat → Nat → (Nat → Int32) → Option xR} {r : xR} (h : xcI o k = some r) : ∃ t n g, o = some (.inl (t, n, .inl g)) ∧ k t n g = some r := by
  unfold xcI at h; split at h
  · exact ⟨_, _, _, rfl, h⟩
  · cases h
theorem xcL_s {o : Option xE} {k : Nat → Nat → (Nat → Int64) → Option xR} {r : xR} (h : xcL o k = some r) : ∃ t n g, o = some (.inl (t, n, .inr (.inl g))) ∧ k t n g = some r := by
  unfold xcL at h; split at h
  · exact ⟨_, _, _, rfl, h⟩
  · cases h
theorem xcR_s {o : Option xE} {k : Nat → Nat → (Nat → Option Nat) → Option xR} {r : xR} (h : xcR o k = some r) : ∃ t n g, o = some (.inl (t, n, .inr (.inr (.inr (.inr g))))) ∧ k t n g = some r := by
  unfold xcR at h; split at h
  · exact ⟨_, _, _, rfl, h⟩
  · cases h
theorem xcA_s {o : Option xE} {k : Nat → Option xR} {r : xR} (h : xcA o k = some r) : ∃ t n g, o = some (.inl (t, n, g)) ∧ k n = some r := by
  unfold xcA at h; split at h
  · exact ⟨_, _, _, rfl, h⟩
  · cases h
theorem xcO_s {o : Option xE} {k : Nat → List Value → Option xR} {r : xR} (h : xcO o k = some r) : ∃ c fs, o = some (.inr (c, fs)) ∧ k c fs = some r := by
  unfold xcO at h; split at h
  · exact ⟨_, _, rfl, h⟩
  · cases h
theorem xcat1_s {w : Value} (h : xcat1 w = true) : w.category = 1 := by
  cases w <;> simp [xcat1] at h <;> rfl
