section
/-! A small machine over the method's own instructions: its heap is a function from addresses to pictures of cells; what an instruction names stands beside it. -/
abbrev xE : Type := (Nat × vp_A) ⊕ (Nat × List Value)
abbrev xH : Type := (Nat → Option xE) × Nat × Nat
abbrev xF : Type := Nat × List (Option Value) × List Value
/-- an instruction, the next pc, two numbers, a value, places in the list of words -/
abbrev xI : Type := Instr × Nat × Nat × Nat × Value × List Nat
abbrev xO : Type := Option Value ⊕ (Nat × Nat)
abbrev xR : Type := xO × xH
/-- code by pc; handlers (from, to, at, the entry that names the kind, the kind); size of the frame; name; bytes; result; frames and words of room -/
abbrev xM : Type := (Nat → Option xI) × List (Nat × Nat × Nat × Nat × Nat) × Nat × MethodName × ByteArray × Option FieldType × Nat × Nat
abbrev xcd (M : xM) : Nat → Option xI := M.1
abbrev xhs (M : xM) : List (Nat × Nat × Nat × Nat × Nat) := M.2.1
abbrev xml (M : xM) : Nat := M.2.2.1
abbrev xnm (M : xM) : MethodName := M.2.2.2.1
abbrev xby (M : xM) : ByteArray := M.2.2.2.2.1
abbrev xrt (M : xM) : Option FieldType := M.2.2.2.2.2.1
abbrev xdp (M : xM) : Nat := M.2.2.2.2.2.2.1
abbrev xlc (M : xM) : Nat := M.2.2.2.2.2.2.2
def xlk1 : List (Nat × xI) → Nat → Option xI
  | [], _ => none
  | (k, e) :: t, pc => bif Nat.beq k pc then some e else xlk1 t pc
def xlk : List (Nat × List (Nat × xI)) → Nat → Option xI
  | [], _ => none
  | (b, c) :: t, pc => bif Nat.blt pc b then xlk1 c pc else xlk t pc
def xset (h : xH) (a : Nat) (e : xE) : xH := (fun q => if q = a then some e else h.1 q, h.2.1, h.2.2)
def xnew (h : xH) (e : xE) (n : Nat) : xH := (fun q => if q = h.2.1 then some e else h.1 q, h.2.1 + 1, h.2.2 + n)
def xget : List (Option Value) → Nat → Option Value
  | [], _ => none
  | x :: _, 0 => x
  | _ :: t, i + 1 => xget t i
def xnth : List Value → Nat → Option Value
  | [], _ => none
  | x :: _, 0 => some x
  | _ :: t, i + 1 => xnth t i
def xupd : List Value → Nat → Value → List Value
  | [], _, _ => []
  | _ :: t, 0, v => v :: t
  | x :: t, i + 1, v => x :: xupd t i v
/-- what stays of the slot in front of a slot that is written -/
def xkeep : Option Value → Option Value
  | some (.int x) => some (.int x)
  | some (.ref x) => some (.ref x)
  | some .null => some .null
  | _ => none
def xst1 (v : Value) : Nat → List (Option Value) → Option (List (Option Value))
  | 0, _ :: t => some (some v :: t)
  | 1, x :: _ :: t => some (xkeep x :: some v :: t)
  | i + 2, x :: t => match xst1 v (i + 1) t with
    | some t' => some (x :: t')
    | none => none
  | _, _ => none
def xst2 (v : Value) : Nat → List (Option Value) → Option (List (Option Value))
  | 0, _ :: _ :: t => some (some v :: none :: t)
  | 1, x :: _ :: _ :: t => some (xkeep x :: some v :: none :: t)
  | i + 2, x :: t => match xst2 v (i + 1) t with
    | some t' => some (x :: t')
    | none => none
  | _, _ => none
/-- the slots with which a method begins -/
def xpad : Nat → Bool → List Value → List (Option Value)
  | 0, _, _ => []
  | n + 1, true, vs => none :: xpad n false vs
  | n + 1, false, [] => none :: xpad n false []
  | n + 1, false, v :: vs => some v :: xpad n (v.category == 2) vs
def xpop : Nat → List Value → List Value → Option (List Value × List Value)
  | 0, acc, st => some (acc, st)
  | n + 1, acc, v :: st => xpop n (v :: acc) st
  | _ + 1, _, [] => none
def xwt : List Value → Nat
  | [] => 0
  | v :: t => v.category + xwt t
def xif (c : ClassFile.Cond) (x y : Int32) (A B : Option xR) : Option xR := match c with
  | .eq => if x = y then A else B
  | .ne => if x = y then B else A
  | .lt => if x < y then A else B
  | .ge => if y ≤ x then A else B
  | .gt => if y < x then A else B
  | .le => if x ≤ y then A else B
def xhd : List (Nat × Nat × Nat × Nat × Nat) → Nat → Nat → Option Nat
  | [], _, _ => none
  | (s, e, p, _, k) :: t, pc, c => bif Nat.ble s pc && Nat.blt pc e && Nat.beq k c then some p else xhd t pc c
/-- which field types: 0 an int, 1 a boolean, 2 a reference -/
def xfit : Nat → Value → Bool
  | 0, .int _ => true
  | 1, .int x => decide (x = 0 ∨ x = 1)
  | 2, .ref _ => true
  | _, _ => false
/-- the arrays' kinds: 0 int, 1 long, 2 boolean, 3 an int array that is only read, 4 int arrays, 5 + c objects of the kind c -/
abbrev xint (f : Nat → Int32) : (Nat → Int32) ⊕ (Nat → Int64) ⊕ (Nat → UInt32) ⊕ (Nat → UInt64) ⊕ (Nat → Option Nat) := .inl f
abbrev xlng (f : Nat → Int64) : (Nat → Int32) ⊕ (Nat → Int64) ⊕ (Nat → UInt32) ⊕ (Nat → UInt64) ⊕ (Nat → Option Nat) := .inr (.inl f)
abbrev xref (f : Nat → Option Nat) : (Nat → Int32) ⊕ (Nat → Int64) ⊕ (Nat → UInt32) ⊕ (Nat → UInt64) ⊕ (Nat → Option Nat) := .inr (.inr (.inr (.inr f)))
def xzero : Nat → (Nat → Int32) ⊕ (Nat → Int64) ⊕ (Nat → UInt32) ⊕ (Nat → UInt64) ⊕ (Nat → Option Nat)
  | 0 => xint (fun _ => 0)
  | 1 => xlng (fun _ => 0)
  | 2 => xint (fun _ => 0)
  | _ => xref (fun _ => none)
abbrev xA (t n : Nat) (c : (Nat → Int32) ⊕ (Nat → Int64) ⊕ (Nat → UInt32) ⊕ (Nat → UInt64) ⊕ (Nat → Option Nat)) : xE := .inl (t, n, c)
abbrev xO' (c : Nat) (fs : List Value) : xE := .inr (c, fs)
def xgrid (h : xH) (ta tb n k : Nat) : xH :=
  (fun q => if q = h.2.1 then some (xA ta n (xref (fun j => if j < n then some (h.2.1 + 1 + j) else none))) else if h.2.1 < q ∧ q ≤ h.2.1 + n then some (xA tb k (xzero tb)) else h.1 q, h.2.1 + 1 + n, h.2.2 + n + n * k)
/-! the shapes of a stack, of a cell -/
def xI1 (st : List Value) (k : Int32 → List Value → Option xR) : Option xR := match st with
  | .int x :: t => k x t
  | _ => none
def xI2 (st : List Value) (k : Int32 → Int32 → List Value → Option xR) : Option xR := match st with
  | .int y :: .int x :: t => k x y t
  | _ => none
def xL1 (st : List Value) (k : Int64 → List Value → Option xR) : Option xR := match st with
  | .long x :: t => k x t
  | _ => none
def xL2 (st : List Value) (k : Int64 → Int64 → List Value → Option xR) : Option xR := match st with
  | .long y :: .long x :: t => k x y t
  | _ => none
def xLI (st : List Value) (k : Int64 → Int32 → List Value → Option xR) : Option xR := match st with
  | .int y :: .long x :: t => k x y t
  | _ => none
def xA1 (st : List Value) (k : Nat → List Value → Option xR) : Option xR := match st with
  | .ref o :: t => k o t
  | _ => none
def xAI (st : List Value) (k : Nat → Int32 → List Value → Option xR) : Option xR := match st with
  | .int j :: .ref o :: t => k o j t
  | _ => none
def xAII (st : List Value) (k : Nat → Int32 → Int32 → List Value → Option xR) : Option xR := match st with
  | .int x :: .int j :: .ref o :: t => k o j x t
  | _ => none
def xAIL (st : List Value) (k : Nat → Int32 → Int64 → List Value → Option xR) : Option xR := match st with
  | .long x :: .int j :: .ref o :: t => k o j x t
  | _ => none
def xAIA (st : List Value) (k : Nat → Int32 → Nat → List Value → Option xR) : Option xR := match st with
  | .ref w :: .int j :: .ref o :: t => k o j w t
  | _ => none
def xAV (st : List Value) (k : Nat → Value → List Value → Option xR) : Option xR := match st with
  | w :: .ref o :: t => k o w t
  | _ => none
def xcopy (st : List Value) (k : Nat → Int32 → Nat → Int32 → Int32 → List Value → Option xR) : Option xR := match st with
  | .int n :: .int dp :: .ref d :: .int sp :: .ref s :: t => k s sp d dp n t
  | _ => none
def xvI (o : Option Value) (k : Int32 → Option xR) : Option xR := match o with
  | some (.int x) => k x
  | _ => none
def xvL (o : Option Value) (k : Int64 → Option xR) : Option xR := match o with
  | some (.long x) => k x
  | _ => none
def xvA (o : Option Value) (k : Nat → Option xR) : Option xR := match o with
  | some (.ref x) => k x
  | _ => none
def xvN (o : Value) (k : Int32 → Option xR) : Option xR := match o with
  | .int x => k x
  | _ => none
def xvK (o : Value) (k : Nat → Option xR) : Option xR := match o with
  | .retAddr x => k x
  | _ => none
def xS {α : Type} (o : Option α) (k : α → Option xR) : Option xR := match o with
  | some x => k x
  | none => none
def xB (b : Bool) (k : Option xR) : Option xR := match b with
  | true => k
  | false => none
def xN (c : Prop) [Decidable c] (k : Option xR) : Option xR := if c then none else k
def xcI (o : Option xE) (k : Nat → Nat → (Nat → Int32) → Option xR) : Option xR := match o with
  | some (.inl (t, n, .inl g)) => k t n g
  | _ => none
def xcL (o : Option xE) (k : Nat → Nat → (Nat → Int64) → Option xR) : Option xR := match o with
  | some (.inl (t, n, .inr (.inl g))) => k t n g
  | _ => none
def xcR (o : Option xE) (k : Nat → Nat → (Nat → Option Nat) → Option xR) : Option xR := match o with
  | some (.inl (t, n, .inr (.inr (.inr (.inr g))))) => k t n g
  | _ => none
def xcA (o : Option xE) (k : Nat → Option xR) : Option xR := match o with
  | some (.inl (_, n, _)) => k n
  | _ => none
def xcO (o : Option xE) (k : Nat → List Value → Option xR) : Option xR := match o with
  | some (.inr (c, fs)) => k c fs
  | _ => none
def xcat1 : Value → Bool
  | .int _ => true
  | .ref _ => true
  | .null => true
  | _ => false
/-- behind a call -/
def xback (ih : xM → xF → xH → Option xR) (M : xM) (pc nx : Nat) (l : List (Option Value)) (rest : List Value) (r : xR) : Option xR := match r with
  | (.inl none, h) => ih M (nx, l, rest) h
  | (.inl (some v), h) => ih M (nx, l, v :: rest) h
  | (.inr (c, a), h) => match xhs M with
    | [] => some (.inr (c, a), h)
    | t => xS (xhd t pc c) fun p => ih M (p, l, [.ref a]) h
def xcall (G : Nat → xM) (ih : xM → xF → xH → Option xR) (M : xM) (pc nx : Nat) (l : List (Option Value)) (z : Nat) (as rest : List Value) (h : xH) : Option xR :=
  xB (Nat.ble (xwt rest) 8 && Nat.ble (xwt as) (xml (G z))) (xS (ih (G z) (0, xpad (xml (G z)) false as, []) h) fun r => xback ih M pc nx l rest r)
def xop (V : Nat → Value) (F : Nat → List Value) (G : Nat → xM) (ih : xM → xF → xH → Option xR) (M : xM) (f : xF) (h : xH) (i : Instr) (nx a b : Nat) (v : Value) : Option xR :=
  match i with
  | .iconst _ => ih M (nx, f.2.1, v :: f.2.2) h
  | .bipush _ => ih M (nx, f.2.1, v :: f.2.2) h
  | .sipush _ => ih M (nx, f.2.1, v :: f.2.2) h
  | .lconst _ => ih M (nx, f.2.1, v :: f.2.2) h
  | .ldc _ => ih M (nx, f.2.1, v :: f.2.2) h
  | .ldc_w _ => ih M (nx, f.2.1, v :: f.2.2) h
  | .ldc2_w _ => ih M (nx, f.2.1, v :: f.2.2) h
  | .getstatic _ => ih M (nx, f.2.1, V a :: f.2.2) h
  | .iload _ => xvI (xget f.2.1 a) fun x => ih M (nx, f.2.1, .int x :: f.2.2) h
  | .iload_n _ => xvI (xget f.2.1 a) fun x => ih M (nx, f.2.1, .int x :: f.2.2) h
  | .lload _ => xvL (xget f.2.1 a) fun x => ih M (nx, f.2.1, .long x :: f.2.2) h
  | .lload_n _ => xvL (xget f.2.1 a) fun x => ih M (nx, f.2.1, .long x :: f.2.2) h
  | .aload _ => xvA (xget f.2.1 a) fun x => ih M (nx, f.2.1, .ref x :: f.2.2) h
  | .aload_n _ => xvA (xget f.2.1 a) fun x => ih M (nx, f.2.1, .ref x :: f.2.2) h
  | .istore _ => xI1 f.2.2 fun x st => xS (xst1 (.int x) a f.2.1) fun l => ih M (nx, l, st) h
  | .istore_n _ => xI1 f.2.2 fun x st => xS (xst1 (.int x) a f.2.1) fun l => ih M (nx, l, st) h
  | .astore _ => xA1 f.2.2 fun x st => xS (xst1 (.ref x) a f.2.1) fun l => ih M (nx, l, st) h
  | .astore_n _ => xA1 f.2.2 fun x st => xS (xst1 (.ref x) a f.2.1) fun l => ih M (nx, l, st) h
  | .lstore _ => xL1 f.2.2 fun x st => xS (xst2 (.long x) a f.2.1) fun l => ih M (nx, l, st) h
  | .lstore_n _ => xL1 f.2.2 fun x st => xS (xst2 (.long x) a f.2.1) fun l => ih M (nx, l, st) h
  | .iinc _ _ => xvI (xget f.2.1 a) fun x => xvN v fun c => xS (xst1 (.int (x + c)) a f.2.1) fun l => ih M (nx, l, f.2.2) h
  | .iadd => xI2 f.2.2 fun x y st => ih M (nx, f.2.1, .int (x + y) :: st) h
  | .isub => xI2 f.2.2 fun x y st => ih M (nx, f.2.1, .int (x - y) :: st) h
  | .imul => xI2 f.2.2 fun x y st => ih M (nx, f.2.1, .int (x * y) :: st) h
  | .iand => xI2 f.2.2 fun x y st => ih M (nx, f.2.1, .int (x &&& y) :: st) h
  | .ior => xI2 f.2.2 fun x y st => ih M (nx, f.2.1, .int (x ||| y) :: st) h
  | .ixor => xI2 f.2.2 fun x y st => ih M (nx, f.2.1, .int (x ^^^ y) :: st) h
  | .ishl => xI2 f.2.2 fun x y st => ih M (nx, f.2.1, .int (x <<< (y &&& 31)) :: st) h
  | .ishr => xI2 f.2.2 fun x y st => ih M (nx, f.2.1, .int (x >>> (y &&& 31)) :: st) h
  | .iushr => xI2 f.2.2 fun x y st => ih M (nx, f.2.1, .int ((x.toUInt32 >>> (y.toUInt32 &&& Int32.toUInt32 31)).toInt32) :: st) h
  | .idiv => xI2 f.2.2 fun x y st => xN (y = 0) (ih M (nx, f.2.1, .int (x / y) :: st) h)
  | .irem => xI2 f.2.2 fun x y st => xN (y = 0) (ih M (nx, f.2.1, .int (x - x / y * y) :: st) h)
  | .ineg => xI1 f.2.2 fun x st => ih M (nx, f.2.1, .int (-x) :: st) h
  | .ladd => xL2 f.2.2 fun x y st => ih M (nx, f.2.1, .long (x + y) :: st) h
  | .lsub => xL2 f.2.2 fun x y st => ih M (nx, f.2.1, .long (x - y) :: st) h
  | .land => xL2 f.2.2 fun x y st => ih M (nx, f.2.1, .long (x &&& y) :: st) h
  | .lor => xL2 f.2.2 fun x y st => ih M (nx, f.2.1, .long (x ||| y) :: st) h
  | .lshl => xLI f.2.2 fun x y st => ih M (nx, f.2.1, .long (x <<< (y.toInt64 &&& 63)) :: st) h
  | .lushr => xLI f.2.2 fun x y st => ih M (nx, f.2.1, .long ((x.toUInt64 >>> (y.toInt64.toUInt64 &&& Int64.toUInt64 63)).toInt64) :: st) h
  | .lcmp => xL2 f.2.2 fun x y st => ih M (nx, f.2.1, .int (lg_cmp x y) :: st) h
  | .i2l => xI1 f.2.2 fun x st => ih M (nx, f.2.1, .long x.toInt64 :: st) h
  | .l2i => xL1 f.2.2 fun x st => ih M (nx, f.2.1, .int x.toInt32 :: st) h
  | .dup => match f.2.2 with
    | w :: st => xB (xcat1 w) (ih M (nx, f.2.1, w :: w :: st) h)
    | _ => none
  | .dup2 => match f.2.2 with
    | w :: u :: st => xB (xcat1 w && xcat1 u) (ih M (nx, f.2.1, w :: u :: w :: u :: st) h)
    | _ => none
  | .dup_x1 => match f.2.2 with
    | w :: u :: st => xB (xcat1 w && xcat1 u) (ih M (nx, f.2.1, w :: u :: w :: st) h)
    | _ => none
  | .dup_x2 => match f.2.2 with
    | w :: u :: t :: st => xB (xcat1 w && xcat1 u && xcat1 t) (ih M (nx, f.2.1, w :: u :: t :: w :: st) h)
    | _ => none
  | .pop => match f.2.2 with
    | w :: st => xB (xcat1 w) (ih M (nx, f.2.1, st) h)
    | _ => none
  | .ifCond c _ => xI1 f.2.2 fun x st => xif c x 0 (ih M (a, f.2.1, st) h) (ih M (nx, f.2.1, st) h)
  | .if_icmp c _ => xI2 f.2.2 fun x y st => xif c x y (ih M (a, f.2.1, st) h) (ih M (nx, f.2.1, st) h)
  | .goto _ => ih M (a, f.2.1, f.2.2) h
  | .tableswitch _ lo hi offs => xI1 f.2.2 fun x st => if x.toInt < lo ∨ hi < x.toInt then ih M (a, f.2.1, st) h else
      xS offs[(x.toInt - lo).toNat]? fun o => xN ((f.1 : Int) + o < 0) (ih M (((f.1 : Int) + o).toNat, f.2.1, st) h)
  | .ireturn => match f.2.2, xrt M with
    | [.int x], some .int => some (.inl (some (.int x)), h)
    | [.int x], some .boolean => xB (decide (x = 0 ∨ x = 1)) (some (.inl (some (.int x)), h))
    | _, _ => none
  | .lreturn => match f.2.2, xrt M with
    | [.long x], some .long => some (.inl (some (.long x)), h)
    | _, _ => none
  | .areturn => match f.2.2, xrt M with
    | [.ref x], some (.object _) => some (.inl (some (.ref x)), h)
    | [.ref x], some (.array _) => some (.inl (some (.ref x)), h)
    | _, _ => none
  | .return_ => match f.2.2, xrt M with
    | [], none => some (.inl none, h)
    | _, _ => none
  | .getfield _ => xA1 f.2.2 fun o st => xcO (h.1 o) fun c fs => xB (Nat.beq c a) (xS (xnth fs b) fun w => ih M (nx, f.2.1, w :: st) h)
  | .putfield _ => xAV f.2.2 fun o w st => xvK v fun k => xcO (h.1 o) fun c fs => xB (Nat.beq c a && Nat.blt b fs.length && xfit k w) (ih M (nx, f.2.1, st) (xset h o (xO' c (xupd fs b w))))
  | .iaload => xAI f.2.2 fun o j st => xcI (h.1 o) fun t n g => xB (Nat.beq t 0 || Nat.beq t 3) (xN (j < 0 ∨ n ≤ j.toNatClampNeg) (ih M (nx, f.2.1, .int (g j.toNatClampNeg) :: st) h))
  | .baload => xAI f.2.2 fun o j st => xcI (h.1 o) fun t n g => xB (Nat.beq t 2) (xN (j < 0 ∨ n ≤ j.toNatClampNeg) (ih M (nx, f.2.1, .int (g j.toNatClampNeg) :: st) h))
  | .laload => xAI f.2.2 fun o j st => xcL (h.1 o) fun t n g => xB (Nat.beq t 1) (xN (j < 0 ∨ n ≤ j.toNatClampNeg) (ih M (nx, f.2.1, .long (g j.toNatClampNeg) :: st) h))
  | .aaload => xAI f.2.2 fun o j st => xcR (h.1 o) fun t n g => xB (Nat.ble 4 t) (xN (j < 0 ∨ n ≤ j.toNatClampNeg) (xS (g j.toNatClampNeg) fun w => ih M (nx, f.2.1, .ref w :: st) h))
  | .iastore => xAII f.2.2 fun o j x st => xcI (h.1 o) fun t n g => xB (Nat.beq t 0) (xN (j < 0 ∨ n ≤ j.toNatClampNeg) (ih M (nx, f.2.1, st) (xset h o (xA t n (xint (upd g j.toNatClampNeg x))))))
  | .bastore => xAII f.2.2 fun o j x st => xcI (h.1 o) fun t n g => xB (Nat.beq t 2 && decide (x = 0 ∨ x = 1)) (xN (j < 0 ∨ n ≤ j.toNatClampNeg) (ih M (nx, f.2.1, st) (xset h o (xA t n (xint (upd g j.toNatClampNeg x))))))
  | .lastore => xAIL f.2.2 fun o j x st => xcL (h.1 o) fun t n g => xB (Nat.beq t 1) (xN (j < 0 ∨ n ≤ j.toNatClampNeg) (ih M (nx, f.2.1, st) (xset h o (xA t n (xlng (vp_updL g j.toNatClampNeg x))))))
  | .aastore => xAIA f.2.2 fun o j w st => xcR (h.1 o) fun t n g => xcO (h.1 w) fun c _ => xB (Nat.beq t (5 + c)) (xN (j < 0 ∨ n ≤ j.toNatClampNeg) (ih M (nx, f.2.1, st) (xset h o (xA t n (xref (va_up g j.toNatClampNeg (some w)))))))
  | .arraylength => xA1 f.2.2 fun o st => xcA (h.1 o) fun n => ih M (nx, f.2.1, .int (Int32.ofNat n) :: st) h
  | .newarray _ => xI1 f.2.2 fun n st => xN (n < 0 ∨ 1000000 < n.toNatClampNeg) (ih M (nx, f.2.1, .ref h.2.1 :: st) (xnew h (xA a n.toNatClampNeg (xzero a)) n.toNatClampNeg))
  | .anewarray _ => xI1 f.2.2 fun n st => xN (n < 0 ∨ 1000000 < n.toNatClampNeg) (ih M (nx, f.2.1, .ref h.2.1 :: st) (xnew h (xA a n.toNatClampNeg (xzero a)) n.toNatClampNeg))
  | .multianewarray _ _ => xI2 f.2.2 fun n k st => xN (n < 0 ∨ 1000 < n.toNatClampNeg ∨ k < 0 ∨ 1000000 < k.toNatClampNeg) (ih M (nx, f.2.1, .ref h.2.1 :: st) (xgrid h a b n.toNatClampNeg k.toNatClampNeg))
  | .new _ => match v with
    | .null => match f.2.2 with
      | [] => some (.inr (a, h.2.1), xnew h (xO' a []) b)
      | _ => none
    | _ => ih M (nx, f.2.1, .ref h.2.1 :: f.2.2) (xnew h (xO' a (F a)) b)
  | .invokestatic _ => match v with
    | .retAddr _ => xcopy f.2.2 fun s sp d dp n st => xcI (h.1 s) fun t n0 g => xcI (h.1 d) fun t' n1 g' => xB (Nat.beq t 0 && Nat.beq t' 0)
        (xN (sp < 0 ∨ dp < 0 ∨ n < 0 ∨ n0 < sp.toNatClampNeg + n.toNatClampNeg ∨ n1 < dp.toNatClampNeg + n.toNatClampNeg)
          (xB (Nat.ble (xwt st) 8) (ih M (nx, f.2.1, st) (xset h d (xA t' n1 (xint (va_cpy g g' sp.toNatClampNeg dp.toNatClampNeg n.toNatClampNeg)))))))
    | _ => xS (xpop b [] f.2.2) fun q => xcall G ih M f.1 nx f.2.1 a q.1 q.2 h
  | .invokevirtual _ => xS (xpop b [] f.2.2) fun q => match q.1 with
    | .ref o :: as => xvK v fun k => xcO (h.1 o) fun c _ => xB (Nat.beq c k) (xcall G ih M f.1 nx f.2.1 a (.ref o :: as) q.2 h)
    | _ => none
  | .invokespecial _ => match v with
    | .null => xA1 f.2.2 fun _ st => xB (Nat.ble (xwt st) 8) (ih M (nx, f.2.1, st) h)
    | _ => xS (xpop b [] f.2.2) fun q => match q.1 with
      | .ref o :: as => xcall G ih M f.1 nx f.2.1 a (.ref o :: as) q.2 h
      | _ => none
  | _ => none
def xbody (V : Nat → Value) (F : Nat → List Value) (G : Nat → xM) (ih : xM → xF → xH → Option xR) (M : xM) (f : xF) (h : xH) : Option xR :=
  xS (xcd M f.1) fun q => xop V F G ih M f h q.1 q.2.1 q.2.2.1 q.2.2.2.1 q.2.2.2.2.1
def xrun (V : Nat → Value) (F : Nat → List Value) (G : Nat → xM) (n : Nat) : xM → xF → xH → Option xR :=
  Nat.rec (fun _ _ _ => none) (fun _ ih => xbody V F G ih) n
theorem xrun_succ (V : Nat → Value) (F : Nat → List Value) (G : Nat → xM) (n : Nat) : xrun V F G (n + 1) = xbody V F G (xrun V F G n) := rfl
/-! what a success says -/
theorem xI1_s {st : List Value} {k : Int32 → List Value → Option xR} {r : xR} (h : xI1 st k = some r) : ∃ x t, st = .int x :: t ∧ k x t = some r := by
  unfold xI1 at h; split at h
  · exact ⟨_, _, rfl, h⟩
  · cases h
theorem xI2_s {st : List Value} {k : Int32 → Int32 → List Value → Option xR} {r : xR} (h : xI2 st k = some r) : ∃ x y t, st = .int y :: .int x :: t ∧ k x y t = some r := by
  unfold xI2 at h; split at h
  · exact ⟨_, _, _, rfl, h⟩
  · cases h
theorem xL1_s {st : List Value} {k : Int64 → List Value → Option xR} {r : xR} (h : xL1 st k = some r) : ∃ x t, st = .long x :: t ∧ k x t = some r := by
  unfold xL1 at h; split at h
  · exact ⟨_, _, rfl, h⟩
  · cases h
theorem xL2_s {st : List Value} {k : Int64 → Int64 → List Value → Option xR} {r : xR} (h : xL2 st k = some r) : ∃ x y t, st = .long y :: .long x :: t ∧ k x y t = some r := by
  unfold xL2 at h; split at h
  · exact ⟨_, _, _, rfl, h⟩
  · cases h
theorem xLI_s {st : List Value} {k : Int64 → Int32 → List Value → Option xR} {r : xR} (h : xLI st k = some r) : ∃ x y t, st = .int y :: .long x :: t ∧ k x y t = some r := by
  unfold xLI at h; split at h
  · exact ⟨_, _, _, rfl, h⟩
  · cases h
theorem xA1_s {st : List Value} {k : Nat → List Value → Option xR} {r : xR} (h : xA1 st k = some r) : ∃ o t, st = .ref o :: t ∧ k o t = some r := by
  unfold xA1 at h; split at h
  · exact ⟨_, _, rfl, h⟩
  · cases h
theorem xAI_s {st : List Value} {k : Nat → Int32 → List Value → Option xR} {r : xR} (h : xAI st k = some r) : ∃ o j t, st = .int j :: .ref o :: t ∧ k o j t = some r := by
  unfold xAI at h; split at h
  · exact ⟨_, _, _, rfl, h⟩
  · cases h
theorem xAII_s {st : List Value} {k : Nat → Int32 → Int32 → List Value → Option xR} {r : xR} (h : xAII st k = some r) : ∃ o j x t, st = .int x :: .int j :: .ref o :: t ∧ k o j x t = some r := by
  unfold xAII at h; split at h
  · exact ⟨_, _, _, _, rfl, h⟩
  · cases h
theorem xAIL_s {st : List Value} {k : Nat → Int32 → Int64 → List Value → Option xR} {r : xR} (h : xAIL st k = some r) : ∃ o j x t, st = .long x :: .int j :: .ref o :: t ∧ k o j x t = some r := by
  unfold xAIL at h; split at h
  · exact ⟨_, _, _, _, rfl, h⟩
  · cases h
theorem xAIA_s {st : List Value} {k : Nat → Int32 → Nat → List Value → Option xR} {r : xR} (h : xAIA st k = some r) : ∃ o j w t, st = .ref w :: .int j :: .ref o :: t ∧ k o j w t = some r := by
  unfold xAIA at h; split at h
  · exact ⟨_, _, _, _, rfl, h⟩
  · cases h
theorem xAV_s {st : List Value} {k : Nat → Value → List Value → Option xR} {r : xR} (h : xAV st k = some r) : ∃ o w t, st = w :: .ref o :: t ∧ k o w t = some r := by
  unfold xAV at h; split at h
  · exact ⟨_, _, _, rfl, h⟩
  · cases h
theorem xcopy_s {st : List Value} {k : Nat → Int32 → Nat → Int32 → Int32 → List Value → Option xR} {r : xR} (h : xcopy st k = some r) : ∃ s sp d dp n t, st = .int n :: .int dp :: .ref d :: .int sp :: .ref s :: t ∧ k s sp d dp n t = some r := by
  unfold xcopy at h; split at h
  · exact ⟨_, _, _, _, _, _, rfl, h⟩
  · cases h
theorem xvI_s {o : Option Value} {k : Int32 → Option xR} {r : xR} (h : xvI o k = some r) : ∃ x, o = some (.int x) ∧ k x = some r := by
  unfold xvI at h; split at h
  · exact ⟨_, rfl, h⟩
  · cases h
theorem xvL_s {o : Option Value} {k : Int64 → Option xR} {r : xR} (h : xvL o k = some r) : ∃ x, o = some (.long x) ∧ k x = some r := by
  unfold xvL at h; split at h
  · exact ⟨_, rfl, h⟩
  · cases h
theorem xvA_s {o : Option Value} {k : Nat → Option xR} {r : xR} (h : xvA o k = some r) : ∃ x, o = some (.ref x) ∧ k x = some r := by
  unfold xvA at h; split at h
  · exact ⟨_, rfl, h⟩
  · cases h
theorem xvN_s {o : Value} {k : Int32 → Option xR} {r : xR} (h : xvN o k = some r) : ∃ x, o = .int x ∧ k x = some r := by
  unfold xvN at h; split at h
  · exact ⟨_, rfl, h⟩
  · cases h
theorem xvK_s {o : Value} {k : Nat → Option xR} {r : xR} (h : xvK o k = some r) : ∃ x, o = .retAddr x ∧ k x = some r := by
  unfold xvK at h; split at h
  · exact ⟨_, rfl, h⟩
  · cases h
theorem xS_s {α : Type} {o : Option α} {k : α → Option xR} {r : xR} (h : xS o k = some r) : ∃ x, o = some x ∧ k x = some r := by
  unfold xS at h; split at h
  · exact ⟨_, rfl, h⟩
  · cases h
theorem xB_s {b : Bool} {k : Option xR} {r : xR} (h : xB b k = some r) : b = true ∧ k = some r := by
  unfold xB at h; split at h
  · exact ⟨rfl, h⟩
  · cases h
theorem xN_s {c : Prop} [Decidable c] {k : Option xR} {r : xR} (h : xN c k = some r) : ¬ c ∧ k = some r := by
  unfold xN at h; split at h
  · cases h
  · next hc => exact ⟨hc, h⟩
theorem xcI_s {o : Option xE} {k : Nat → Nat → (Nat → Int32) → Option xR} {r : xR} (h : xcI o k = some r) : ∃ t n g, o = some (.inl (t, n, .inl g)) ∧ k t n g = some r := by
  unfold xcI at h; split at h
  · exact ⟨_, _, _, rfl, h⟩
  · cases h
theorem xcL_s {o : Option xE} {k : Nat → Nat → (Nat → Int64) → Option xR} {r : xR} (h : xcL o k = some r) : ∃ t n g, o = some (.inl (t, n, .inr (.inl g))) ∧ k t n g = some r := by
  unfold xcL at h; split at h
  · exact ⟨_, _, _, rfl, h⟩
  · cases h
theorem xcR_s {o : Option xE} {k : Nat → Nat → (Nat → Option Nat) → Option xR} {r : xR} (h : xcR o k = some r) : ∃ t n g, o = some (.inl (t, n, .inr (.inr (.inr (.inr g))))) ∧ k t n g = some r := by
  unfold xcR at h; split at h
  · exact ⟨_, _, _, rfl, h⟩
  · cases h
theorem xcA_s {o : Option xE} {k : Nat → Option xR} {r : xR} (h : xcA o k = some r) : ∃ t n g, o = some (.inl (t, n, g)) ∧ k n = some r := by
  unfold xcA at h; split at h
  · exact ⟨_, _, _, rfl, h⟩
  · cases h
theorem xcO_s {o : Option xE} {k : Nat → List Value → Option xR} {r : xR} (h : xcO o k = some r) : ∃ c fs, o = some (.inr (c, fs)) ∧ k c fs = some r := by
  unfold xcO at h; split at h
  · exact ⟨_, _, rfl, h⟩
  · cases h
theorem xcat1_s {w : Value} (h : xcat1 w = true) : w.category = 1 := by
  cases w <;> simp [xcat1] at h <;> rfl
end
section
/-! the small machine's pictures against the heap, its slots against the frame -/
def xty (cl : List vw_C) : Nat → FieldType
  | 0 => .int
  | 1 => .long
  | 2 => .boolean
  | 3 => .int
  | 4 => .array .int
  | c + 5 => .object ((cl[c]?.map (fun r => r.1)).getD "")
def xvl (ct : (Nat → Int32) ⊕ (Nat → Int64) ⊕ (Nat → UInt32) ⊕ (Nat → UInt64) ⊕ (Nat → Option Nat)) (j : Nat) : Value := match ct with
  | .inl f => .int (f j)
  | .inr (.inl f) => .long (f j)
  | .inr (.inr (.inl f)) => .float (f j)
  | .inr (.inr (.inr (.inl f))) => .double (f j)
  | .inr (.inr (.inr (.inr f))) => va_rf (f j)
def xat (D : va_G) (cl : List vw_C) (U : State) (q : Nat) (e : xE) (H : Heap) : Prop := match e with
  | .inl a => (a.1 = 3 ∧ ∃ cell : Cell, H[q]? = some cell ∧ U.isArrayOf cell .int ∧ cell.vm ≠ .unknown ∧ cell.slots.size = a.2.1 ∧ ∀ j : Nat, j < a.2.1 → cell.slots[j]? = some (xvl a.2.2 j)) ∨
      (a.1 ≠ 3 ∧ ∃ cA : ClassId, H[q]? = some (arrV cA a.2.1 (xvl a.2.2)) ∧ ArrOfT U cA (xty cl a.1) ∧ va_RA U cA (xty cl a.1))
  | .inr o => ∃ r : vw_C, cl[o.1]? = some r ∧ t_OB q (D.1 o.1) r.2.2 (D.2 o.1) H (vp_V o.2)
def xro (e : xE) : Prop := match e with
  | .inl a => a.1 = 3
  | .inr _ => False
def xHR (D : va_G) (cl : List vw_C) (H0 : Heap) (U : State) (h : xH) (H : Heap) : Prop :=
  H.size = h.2.1 ∧ H0.size ≤ H.size ∧ (∀ q : Nat, q < H0.size → H[q]? = H0[q]?) ∧ ∀ (q : Nat) (e : xE), h.1 q = some e → xat D cl U q e H ∧ (xro e ∨ H0.size ≤ q)
theorem xnth_eq : ∀ (fs : List Value) (b : Nat), xnth fs b = fs[b]?
  | [], _ => by simp [xnth]
  | x :: _, 0 => by simp [xnth]
  | x :: t, b + 1 => by simp [xnth, xnth_eq t b]
theorem xupd_eq : ∀ (fs : List Value) (b : Nat) (v : Value), xupd fs b v = fs.set b v
  | [], _, _ => by simp [xupd]
  | x :: _, 0, _ => by simp [xupd]
  | x :: t, b + 1, v => by simp [xupd, xupd_eq t b v]
theorem xwt_eq : ∀ st : List Value, xwt st = (st.map fun v => v.category).sum
  | [] => rfl
  | v :: t => by simp [xwt, xwt_eq t]
section XA
variable {D : va_G} {cl : List vw_C} {H0 H H1 : Heap} {U U1 : State} {h : xH} {q : Nat} {e : xE}
theorem xat.kept (k : xat D cl U q e H) (hq : H1[q]? = H[q]?) : xat D cl U q e H1 := by
  cases e with
  | inl x =>
    rcases k with ⟨h0, cell, h1, h2⟩ | ⟨h0, cA, h1, h2⟩
    · exact Or.inl ⟨h0, cell, hq.trans h1, h2⟩
    · exact Or.inr ⟨h0, cA, hq.trans h1, h2⟩
  | inr o =>
    obtain ⟨r, h1, h2⟩ := k
    exact ⟨r, h1, h2.kept hq⟩
theorem xat.moved (hvm : U.vm.Alike U1.vm) (k : xat D cl U q e H) : xat D cl U1 q e H := by
  cases e with
  | inl x =>
    rcases k with ⟨h0, cell, h1, h2, h3⟩ | ⟨h0, cA, h1, h2, h3⟩
    · exact Or.inl ⟨h0, cell, h1, State.isArrayOf_alike hvm h2, h3⟩
    · exact Or.inr ⟨h0, cA, h1, arrOfT_moved hvm h2, h3.moved hvm⟩
  | inr o => exact k
theorem xat.arr {t n : Nat} {ct : (Nat → Int32) ⊕ (Nat → Int64) ⊕ (Nat → UInt32) ⊕ (Nat → UInt64) ⊕ (Nat → Option Nat)} (k : xat D cl U q (.inl (t, n, ct)) H) :
    ∃ cell : Cell, H[q]? = some cell ∧ U.isArrayOf cell (xty cl t) ∧ cell.vm ≠ .unknown ∧ cell.slots.size = n ∧ ∀ j : Nat, j < n → cell.slots[j]? = some (xvl ct j) := by
  rcases k with ⟨h0, cell, h1, h2, h3, h4, h5⟩ | ⟨h0, cA, h1, h2, h3⟩
  · have h0 : t = 3 := h0
    subst h0
    exact ⟨cell, h1, h2, h3, h4, h5⟩
  · exact ⟨_, h1, h2 n (xvl ct), (fun z => by cases z), arrV_size _ _ _, fun j hj => arrV_read _ _ hj⟩
theorem xat.lt (k : xat D cl U q e H) : q < H.size := by
  cases e with
  | inl x =>
    obtain ⟨cell, h1, -⟩ := xat.arr (t := x.1) (n := x.2.1) (ct := x.2.2) k
    exact (Array.getElem?_eq_some_iff.mp h1).1
  | inr o =>
    obtain ⟨r, -, cell, h2, -⟩ := k
    exact (Array.getElem?_eq_some_iff.mp h2).1
theorem xHR.moved (hvm : U.vm.Alike U1.vm) (k : xHR D cl H0 U h H) : xHR D cl H0 U1 h H :=
  ⟨k.1, k.2.1, k.2.2.1, fun q e he => ⟨(k.2.2.2 q e he).1.moved hvm, (k.2.2.2 q e he).2⟩⟩
theorem xHR.lt (k : xHR D cl H0 U h H) (he : h.1 q = some e) : q < H.size := (k.2.2.2 q e he).1.lt
theorem xHR.old (k : xHR D cl H0 U h H) (he : h.1 q = some e) (hr : ¬ xro e) : H0.size ≤ q := (k.2.2.2 q e he).2.resolve_left hr
theorem xHR.set {e1 : xE} (k : xHR D cl H0 U h H) (he : h.1 q = some e) (hr : ¬ xro e) (ha : xat D cl U q e1 H1) (z : H1.size = H.size) (oq : ∀ x : Nat, x ≠ q → H1[x]? = H[x]?) : xHR D cl H0 U (xset h q e1) H1 := by
  have hold := k.old he hr
  refine ⟨z.trans k.1, by rw [z]; exact k.2.1, fun x hx => ?_, fun x ex hx => ?_⟩
  · rw [oq x (by omega)]
    exact k.2.2.1 x hx
  · by_cases hxq : x = q
    · subst hxq
      have : some e1 = some ex := by simpa [xset] using hx
      cases this
      exact ⟨ha, Or.inr hold⟩
    · have hx' : h.1 x = some ex := by simpa [xset, hxq] using hx
      obtain ⟨k1, k2⟩ := k.2.2.2 x ex hx'
      exact ⟨k1.kept (oq x hxq), k2⟩
theorem xHR.new {e1 : xE} {n : Nat} (k : xHR D cl H0 U h H) (ha : xat D cl U H.size e1 H1) (z : H1.size = H.size + 1) (oq : ∀ x : Nat, x < H.size → H1[x]? = H[x]?) : xHR D cl H0 U (xnew h e1 n) H1 := by
  have hs := k.1
  have h0 := k.2.1
  refine ⟨by rw [z, hs]; rfl, by omega, fun x hx => ?_, fun x ex hx => ?_⟩
  · rw [oq x (by omega)]
    exact k.2.2.1 x hx
  · by_cases hxq : x = h.2.1
    · have : some e1 = some ex := by simpa [xnew, hxq] using hx
      cases this
      rw [hxq, ← hs]
      exact ⟨ha, Or.inr h0⟩
    · have hx' : h.1 x = some ex := by simpa [xnew, hxq] using hx
      obtain ⟨k1, k2⟩ := k.2.2.2 x ex hx'
      exact ⟨k1.kept (oq x k1.lt), k2⟩
end XA
/-! the slots -/
def xl (ls : Array Slot) (nL : Nat) (l : List (Option Value)) : Prop := ls.size = nL ∧ l.length = nL ∧ lv_wf ls ∧ ∀ (i : Nat) (v : Value), xget l i = some v → ls[i]? = some (.val v)
def xal (l : List (Option Value)) : List (Nat × Value) := (List.range l.length).filterMap (fun i => (xget l i).map (fun v => (i, v)))
theorem xget_lt : ∀ (l : List (Option Value)) (i : Nat) (v : Value), xget l i = some v → i < l.length
  | [], _, _, h => by simp [xget] at h
  | _ :: _, 0, _, _ => by simp
  | _ :: t, i + 1, v, h => by
    have := xget_lt t i v (by simpa [xget] using h)
    simp only [List.length_cons]
    omega
theorem xal_mem {l : List (Option Value)} {q : Nat × Value} : q ∈ xal l ↔ xget l q.1 = some q.2 := by
  obtain ⟨i, v⟩ := q
  simp only [xal, List.mem_filterMap, List.mem_range, Option.map_eq_some_iff, Prod.mk.injEq]
  constructor
  · rintro ⟨j, -, w, hw, rfl, rfl⟩
    exact hw
  · intro h
    exact ⟨i, xget_lt l i v h, v, h, rfl, rfl⟩
theorem xl.has {ls : Array Slot} {nL : Nat} {l : List (Option Value)} (h : xl ls nL l) : lv_has ls nL (xal l) :=
  ⟨h.1, h.2.2.1, fun q hq => h.2.2.2 q.1 q.2 (xal_mem.mp hq)⟩
theorem xl.at {ls : Array Slot} {nL : Nat} {l : List (Option Value)} (h : xl ls nL l) {i : Nat} {v : Value} (hv : xget l i = some v) : ls[i]? = some (.val v) := h.2.2.2 i v hv
theorem xkeep_spec {x : Option Value} {w : Value} (h : xkeep x = some w) : x = some w ∧ ¬ w.category = 2 := by
  unfold xkeep at h
  split at h
  · cases h; exact ⟨rfl, by simp [Value.category]⟩
  · cases h; exact ⟨rfl, by simp [Value.category]⟩
  · cases h; exact ⟨rfl, by simp [Value.category]⟩
  · cases h
theorem xst1_spec (v : Value) : ∀ (i : Nat) (l l' : List (Option Value)), xst1 v i l = some l' →
    i < l.length ∧ l'.length = l.length ∧ ∀ (j : Nat) (w : Value), xget l' j = some w → (j = i ∧ w = v) ∨ (j ≠ i ∧ xget l j = some w ∧ ¬ (j + 1 = i ∧ w.category = 2))
  | 0, [], _, h => by simp [xst1] at h
  | 0, _ :: t, l', h => by
    simp only [xst1, Option.some.injEq] at h
    subst h
    refine ⟨by simp, by simp, fun j w hj => ?_⟩
    cases j with
    | zero => left; simp [xget] at hj; exact ⟨rfl, hj.symm⟩
    | succ j => right; exact ⟨by omega, by simpa [xget] using hj, by omega⟩
  | 1, [], _, h => by simp [xst1] at h
  | 1, [_], _, h => by simp [xst1] at h
  | 1, x :: y :: t, l', h => by
    simp only [xst1, Option.some.injEq] at h
    subst h
    refine ⟨by simp, by simp, fun j w hj => ?_⟩
    cases j with
    | zero =>
      right
      obtain ⟨k1, k2⟩ := xkeep_spec (by simpa [xget] using hj)
      exact ⟨by omega, by simpa [xget] using k1, fun z => k2 z.2⟩
    | succ j =>
      cases j with
      | zero => left; simp [xget] at hj; exact ⟨rfl, hj.symm⟩
      | succ j => right; exact ⟨by omega, by simpa [xget] using hj, by omega⟩
  | i + 2, [], _, h => by simp [xst1] at h
  | i + 2, x :: t, l', h => by
    simp only [xst1] at h
    split at h
    · next t' ht =>
      simp only [Option.some.injEq] at h
      subst h
      obtain ⟨a1, a2, a3⟩ := xst1_spec v (i + 1) t t' ht
      refine ⟨by simp only [List.length_cons]; omega, by simp only [List.length_cons]; omega, fun j w hj => ?_⟩
      cases j with
      | zero => right; exact ⟨by omega, by simpa [xget] using hj, by omega⟩
      | succ j =>
        rcases a3 j w (by simpa [xget] using hj) with ⟨b1, b2⟩ | ⟨b1, b2, b3⟩
        · left; exact ⟨by omega, b2⟩
        · right; exact ⟨by omega, by simpa [xget] using b2, fun z => b3 ⟨by omega, z.2⟩⟩
    · cases h
theorem xst2_spec (v : Value) : ∀ (i : Nat) (l l' : List (Option Value)), xst2 v i l = some l' →
    i + 1 < l.length ∧ l'.length = l.length ∧ ∀ (j : Nat) (w : Value), xget l' j = some w → (j = i ∧ w = v) ∨ (j ≠ i ∧ j ≠ i + 1 ∧ xget l j = some w ∧ ¬ (j + 1 = i ∧ w.category = 2))
  | 0, [], _, h => by simp [xst2] at h
  | 0, [_], _, h => by simp [xst2] at h
  | 0, _ :: _ :: t, l', h => by
    simp only [xst2, Option.some.injEq] at h
    subst h
    refine ⟨by simp, by simp, fun j w hj => ?_⟩
    cases j with
    | zero => left; simp [xget] at hj; exact ⟨rfl, hj.symm⟩
    | succ j =>
      cases j with
      | zero => simp [xget] at hj
      | succ j => right; exact ⟨by omega, by omega, by simpa [xget] using hj, by omega⟩
  | 1, [], _, h => by simp [xst2] at h
  | 1, [_], _, h => by simp [xst2] at h
  | 1, [_, _], _, h => by simp [xst2] at h
  | 1, x :: y :: z :: t, l', h => by
    simp only [xst2, Option.some.injEq] at h
    subst h
    refine ⟨by simp, by simp, fun j w hj => ?_⟩
    cases j with
    | zero =>
      right
      obtain ⟨k1, k2⟩ := xkeep_spec (by simpa [xget] using hj)
      exact ⟨by omega, by omega, by simpa [xget] using k1, fun z => k2 z.2⟩
    | succ j =>
      cases j with
      | zero => left; simp [xget] at hj; exact ⟨rfl, hj.symm⟩
      | succ j =>
        cases j with
        | zero => simp [xget] at hj
        | succ j => right; exact ⟨by omega, by omega, by simpa [xget] using hj, by omega⟩
  | i + 2, [], _, h => by simp [xst2] at h
  | i + 2, x :: t, l', h => by
    simp only [xst2] at h
    split at h
    · next t' ht =>
      simp only [Option.some.injEq] at h
      subst h
      obtain ⟨a1, a2, a3⟩ := xst2_spec v (i + 1) t t' ht
      refine ⟨by simp only [List.length_cons]; omega, by simp only [List.length_cons]; omega, fun j w hj => ?_⟩
      cases j with
      | zero => right; exact ⟨by omega, by omega, by simpa [xget] using hj, by omega⟩
      | succ j =>
        rcases a3 j w (by simpa [xget] using hj) with ⟨b1, b2⟩ | ⟨b1, b2, b3, b4⟩
        · left; exact ⟨by omega, b2⟩
        · right; exact ⟨by omega, by omega, by simpa [xget] using b3, fun z => b4 ⟨by omega, z.2⟩⟩
    · cases h
theorem xl.st1 {ls ls' : Array Slot} {nL i : Nat} {l l' : List (Option Value)} {v : Value} (h : xl ls nL l) (hs : xst1 v i l = some l') (hh : lv_has ls' nL ((i, v) :: (xal l).filter (fun q => !(q.1 == i) && !(q.1 + 1 == i && q.2.category == 2)))) : xl ls' nL l' := by
  obtain ⟨a1, a2, a3⟩ := xst1_spec v i l l' hs
  refine ⟨hh.1, a2.trans h.2.1, hh.2.1, fun j w hj => ?_⟩
  rcases a3 j w hj with ⟨rfl, rfl⟩ | ⟨b1, b2, b3⟩
  · exact hh.2.2 _ List.mem_cons_self
  · refine hh.2.2 (j, w) (List.mem_cons_of_mem _ (List.mem_filter.mpr ⟨xal_mem.mpr b2, ?_⟩))
    simp only [Bool.and_eq_true, Bool.not_eq_true', beq_eq_false_iff_ne, ne_eq, Bool.and_eq_false_iff]
    refine ⟨b1, ?_⟩
    by_cases z : j + 1 = i
    · exact Or.inr (fun y => b3 ⟨z, y⟩)
    · exact Or.inl z
theorem xl.st2 {ls ls' : Array Slot} {nL i : Nat} {l l' : List (Option Value)} {v : Value} (h : xl ls nL l) (hs : xst2 v i l = some l') (hh : lv_has ls' nL ((i, v) :: (xal l).filter (fun q => !(q.1 == i) && (!(q.1 == i + 1) && !(q.1 + 1 == i && q.2.category == 2))))) : xl ls' nL l' := by
  obtain ⟨a1, a2, a3⟩ := xst2_spec v i l l' hs
  refine ⟨hh.1, a2.trans h.2.1, hh.2.1, fun j w hj => ?_⟩
  rcases a3 j w hj with ⟨rfl, rfl⟩ | ⟨b1, b0, b2, b3⟩
  · exact hh.2.2 _ List.mem_cons_self
  · refine hh.2.2 (j, w) (List.mem_cons_of_mem _ (List.mem_filter.mpr ⟨xal_mem.mpr b2, ?_⟩))
    simp only [Bool.and_eq_true, Bool.not_eq_true', beq_eq_false_iff_ne, ne_eq, Bool.and_eq_false_iff]
    refine ⟨b1, b0, ?_⟩
    by_cases z : j + 1 = i
    · exact Or.inr (fun y => b3 ⟨z, y⟩)
    · exact Or.inl z
theorem xpad_len : ∀ (n : Nat) (b : Bool) (vs : List Value), (xpad n b vs).length = n
  | 0, _, _ => rfl
  | n + 1, true, vs => by simp [xpad, xpad_len n]
  | n + 1, false, [] => by simp [xpad, xpad_len n]
  | n + 1, false, v :: vs => by simp [xpad, xpad_len n]
theorem xpad_spec : ∀ (n : Nat) (b : Bool) (vs : List Value) (k i : Nat) (v : Value), xget (xpad n b vs) i = some v → (k + i, v) ∈ lv_args (if b = true then k + 1 else k) vs
  | 0, _, _, _, _, _, h => by simp [xpad, xget] at h
  | n + 1, true, vs, k, i, v, h => by
    cases i with
    | zero => simp [xpad, xget] at h
    | succ i =>
      have := xpad_spec n false vs (k + 1) i v (by simpa [xpad, xget] using h)
      simp only [Bool.false_eq_true, if_false] at this
      simp only [if_true]
      rw [show k + (i + 1) = k + 1 + i by omega]
      exact this
  | n + 1, false, [], k, i, v, h => by
    cases i with
    | zero => simp [xpad, xget] at h
    | succ i =>
      have := xpad_spec n false [] (k + 1) i v (by simpa [xpad, xget] using h)
      simp [lv_args] at this
  | n + 1, false, w :: vs, k, i, v, h => by
    simp only [Bool.false_eq_true, if_false, lv_args]
    cases i with
    | zero =>
      simp only [xpad, xget, Option.some.injEq] at h
      subst h
      exact List.mem_cons_self
    | succ i =>
      have := xpad_spec n (w.category == 2) vs (k + 1) i v (by simpa [xpad, xget] using h)
      refine List.mem_cons_of_mem _ ?_
      rw [show k + (i + 1) = k + 1 + i by omega]
      simpa using this
theorem lg_sl_len : ∀ vs : List Value, (lg_sl vs).length = xwt vs
  | [] => rfl
  | v :: vs => by
    have ih := lg_sl_len vs
    rcases lv_cat v with hc | hc
    · simp only [lg_sl, List.flatMap_cons, hc] at ih ⊢
      simp [xwt, hc, ih]; omega
    · simp only [lg_sl, List.flatMap_cons, hc] at ih ⊢
      simp [xwt, hc, ih]; omega
theorem xl_entry (vs : List Value) {n : Nat} (hw : xwt vs ≤ n) : xl ((lg_sl vs ++ List.replicate (n - (lg_sl vs).length) Slot.unset).toArray) n (xpad n false vs) := by
  have hl := lv_entry vs (n := n) (by rw [lg_sl_len]; exact hw)
  refine ⟨hl.1, xpad_len n false vs, hl.2.1, fun i v hv => ?_⟩
  have := xpad_spec n false vs 0 i v hv
  simp only [Bool.false_eq_true, if_false, Nat.zero_add] at this
  exact hl.2.2 (i, v) this
theorem xpop_spec : ∀ (n : Nat) (acc st as rest : List Value), xpop n acc st = some (as, rest) → ∃ ys : List Value, ys.length = n ∧ as = ys ++ acc ∧ st = ys.reverse ++ rest
  | 0, acc, st, as, rest, h => by
    simp only [xpop, Option.some.injEq, Prod.mk.injEq] at h
    exact ⟨[], rfl, by simp [h.1], by simp [h.2]⟩
  | n + 1, acc, [], as, rest, h => by simp [xpop] at h
  | n + 1, acc, v :: st, as, rest, h => by
    simp only [xpop] at h
    obtain ⟨ys, h1, h2, h3⟩ := xpop_spec n (v :: acc) st as rest h
    exact ⟨ys ++ [v], by simp [h1], by simp [h2], by simp [h3]⟩
theorem xpop_nil {n : Nat} {st as rest : List Value} (h : xpop n [] st = some (as, rest)) : as.length = n ∧ st = as.reverse ++ rest := by
  obtain ⟨ys, h1, h2, h3⟩ := xpop_spec n [] st as rest h
  simp only [List.append_nil] at h2
  subst h2
  exact ⟨h1, h3⟩
end
section
/-! the machine's steps at the heap, in the small machine's pictures -/
theorem xro3 {t : Nat} {a : vp_A} (h : t ≠ 3) : ¬ xro (.inl (t, a)) := h
section XW
variable {p : Program} {l : Launch} {e : Env} {R : Room} {s : State} {m : MethodId} {args : Array Value} {below : List Frame} {meth : Method} {c : Code} {H : Heap} {locs : List Loc} {cells slots : Nat} {Q : State → Prop}
variable {cc : ByteArray} {pc : Nat} {ls : Array Slot} {rest : List Value} {D : va_G} {cl : List vw_C} {H0 : Heap} {h : xH}
theorem xsz {U : State} (hR : xHR D cl H0 U h H) {o t n : Nat} {ct : (Nat → Int32) ⊕ (Nat → Int64) ⊕ (Nat → UInt32) ⊕ (Nat → UInt64) ⊕ (Nat → Option Nat)} (ho : h.1 o = some (.inl (t, n, ct))) :
    ∃ cell : Cell, H[o]? = some cell ∧ U.isArrayOf cell (xty cl t) ∧ cell.vm ≠ .unknown ∧ cell.slots.size = n ∧ ∀ j : Nat, j < n → cell.slots[j]? = some (xvl ct j) := (hR.2.2.2 o _ ho).1.arr
theorem xlocs {x : Nat} {i : Nat} (hl : ∀ q ∈ locs, H0.size ≤ q.base) (hx : H0.size ≤ x) : ∀ q ∈ locs ++ [(⟨x, i⟩ : Loc)], H0.size ≤ q.base := by
  intro q hq
  rcases List.mem_append.mp hq with h1 | h1
  · exact hl q h1
  · rw [List.mem_singleton.mp h1]; exact hx
theorem xw_iald (hx : p.tables.exec = Jvm.exec) (hb : c.code = cc) (hR : xHR D cl H0 s h H) {o t n : Nat} {g : Nat → Int32} {j : Int32} (ho : h.1 o = some (.inl (t, n, .inl g))) (ht : t = 0 ∨ t = 3) (hj : ¬ (j < 0 ∨ n ≤ j.toNatClampNeg)) (hd : decode cc pc = .ok (.iaload, 1))
    (kk : W p l e R s m args below meth c H locs cells slots Q (F0 m (pc + 1) ls (.int (g j.toNatClampNeg) :: rest))) : W p l e R s m args below meth c H locs cells slots Q (F0 m pc ls (.int j :: .ref o :: rest)) := by
  obtain ⟨cell, h1, h2, h3, h4, h5⟩ := xsz hR ho
  have hty : xty cl t = .int := by rcases ht with rfl | rfl <;> rfl
  rw [hty] at h2
  exact W.iald (v := .int (g j.toNatClampNeg)) hx hb h1 h2 h3 (by rw [h4]; exact hj) (h5 _ (by omega)) rfl rfl hd kk
theorem xw_zald (hx : p.tables.exec = Jvm.exec) (hb : c.code = cc) (hR : xHR D cl H0 s h H) {o n : Nat} {g : Nat → Int32} {j : Int32} (ho : h.1 o = some (.inl (2, n, .inl g))) (hj : ¬ (j < 0 ∨ n ≤ j.toNatClampNeg)) (hd : decode cc pc = .ok (.baload, 1))
    (kk : W p l e R s m args below meth c H locs cells slots Q (F0 m (pc + 1) ls (.int (g j.toNatClampNeg) :: rest))) : W p l e R s m args below meth c H locs cells slots Q (F0 m pc ls (.int j :: .ref o :: rest)) := by
  obtain ⟨cell, h1, h2, h3, h4, h5⟩ := xsz hR ho
  exact W.zald (v := .int (g j.toNatClampNeg)) hx hb h1 h2 h3 (by rw [h4]; exact hj) (h5 _ (by omega)) rfl rfl hd kk
theorem xw_lald (hx : p.tables.exec = Jvm.exec) (hb : c.code = cc) (hR : xHR D cl H0 s h H) {o n : Nat} {g : Nat → Int64} {j : Int32} (ho : h.1 o = some (.inl (1, n, .inr (.inl g)))) (hj : ¬ (j < 0 ∨ n ≤ j.toNatClampNeg)) (hd : decode cc pc = .ok (.laload, 1))
    (kk : W p l e R s m args below meth c H locs cells slots Q (F0 m (pc + 1) ls (.long (g j.toNatClampNeg) :: rest))) : W p l e R s m args below meth c H locs cells slots Q (F0 m pc ls (.int j :: .ref o :: rest)) := by
  obtain ⟨cell, h1, h2, h3, h4, h5⟩ := xsz hR ho
  exact W.lald (v := .long (g j.toNatClampNeg)) hx hb h1 h2 h3 (by rw [h4]; exact hj) (h5 _ (by omega)) rfl rfl hd kk
theorem xty_ref {t : Nat} (ht : 4 ≤ t) : (xty cl t).isReference = true := by
  obtain ⟨k, rfl⟩ : ∃ k, t = 4 + k := ⟨t - 4, by omega⟩
  cases k with
  | zero => rfl
  | succ k => rw [show 4 + (k + 1) = k + 5 by omega]; rfl
theorem xw_aald (hx : p.tables.exec = Jvm.exec) (hb : c.code = cc) (hR : xHR D cl H0 s h H) {o t n w : Nat} {g : Nat → Option Nat} {j : Int32} (ho : h.1 o = some (.inl (t, n, .inr (.inr (.inr (.inr g)))))) (ht : 4 ≤ t) (hj : ¬ (j < 0 ∨ n ≤ j.toNatClampNeg)) (hw : g j.toNatClampNeg = some w) (hd : decode cc pc = .ok (.aaload, 1))
    (kk : W p l e R s m args below meth c H locs cells slots Q (F0 m (pc + 1) ls (.ref w :: rest))) : W p l e R s m args below meth c H locs cells slots Q (F0 m pc ls (.int j :: .ref o :: rest)) := by
  obtain ⟨cell, h1, h2, h3, h4, h5⟩ := xsz hR ho
  refine W.aald (v := .ref w) hx hb h1 h2 (xty_ref ht) h3 (by rw [h4]; exact hj) ?_ rfl rfl hd kk
  rw [h5 _ (by omega)]
  show some (va_rf (g j.toNatClampNeg)) = _
  rw [hw]
  rfl
theorem xw_alen (hx : p.tables.exec = Jvm.exec) (hb : c.code = cc) (hR : xHR D cl H0 s h H) {o t n : Nat} {ct : (Nat → Int32) ⊕ (Nat → Int64) ⊕ (Nat → UInt32) ⊕ (Nat → UInt64) ⊕ (Nat → Option Nat)} (ho : h.1 o = some (.inl (t, n, ct))) (hd : decode cc pc = .ok (.arraylength, 1))
    (kk : W p l e R s m args below meth c H locs cells slots Q (F0 m (pc + 1) ls (.int (Int32.ofNat n) :: rest))) : W p l e R s m args below meth c H locs cells slots Q (F0 m pc ls (.ref o :: rest)) := by
  obtain ⟨cell, h1, h2, h3, h4, h5⟩ := xsz hR ho
  exact W.alen (n := Int32.ofNat n) hx hb h1 h2 (by rw [h4] <;> rfl) rfl rfl hd kk
theorem xst_arr {U : State} {H1 : Heap} {t n o : Nat} {ct ct1 : (Nat → Int32) ⊕ (Nat → Int64) ⊕ (Nat → UInt32) ⊕ (Nat → UInt64) ⊕ (Nat → Option Nat)} {k : Nat} {x : Value} (hR : xHR D cl H0 U h H) (ho : h.1 o = some (.inl (t, n, ct))) (ht : t ≠ 3)
    (hc : ∀ cA : ClassId, H[o]? = some (arrV cA n (xvl ct)) → H1[o]? = some ((arrV cA n (xvl ct)).setSlot k x)) (hv : updV (xvl ct) k x = xvl ct1) (z : H1.size = H.size) (oq : ∀ q : Nat, q ≠ o → H1[q]? = H[q]?) : xHR D cl H0 U (xset h o (xA t n ct1)) H1 := by
  refine hR.set ho (fun z => ht z) ?_ z oq
  rcases (hR.2.2.2 o _ ho).1 with ⟨h0, -⟩ | ⟨-, cA, h1, h2, h3⟩
  · exact absurd h0 ht
  · refine Or.inr ⟨ht, cA, ?_, h2, h3⟩
    have := hc cA h1
    rw [arrV_store, hv] at this
    exact this
theorem xw_iast (hx : p.tables.exec = Jvm.exec) (hb : c.code = cc) (hR : xHR D cl H0 s h H) (hl : ∀ q ∈ locs, H0.size ≤ q.base) {o n : Nat} {g : Nat → Int32} {j x : Int32} (ho : h.1 o = some (.inl (0, n, .inl g))) (hj : ¬ (j < 0 ∨ n ≤ j.toNatClampNeg)) (hd : decode cc pc = .ok (.iastore, 1))
    (kk : ∀ (H1 : Heap) (locs1 : List Loc), xHR D cl H0 s (xset h o (xA 0 n (xint (upd g j.toNatClampNeg x)))) H1 → (∀ q ∈ locs1, H0.size ≤ q.base) → W p l e R s m args below meth c H1 locs1 cells slots Q (F0 m (pc + 1) ls rest)) : W p l e R s m args below meth c H locs cells slots Q (F0 m pc ls (.int x :: .int j :: .ref o :: rest)) := by
  obtain ⟨cell, h1, h2, h3, h4, h5⟩ := xsz hR ho
  refine W.iast hx hb h1 h2 h3 (by rw [h4]; exact hj) rfl rfl hd fun H1 e1 z oq => ?_
  refine kk H1 _ (xst_arr (k := j.toNatClampNeg) (x := .int x) hR ho (by decide) (fun cA q => ?_) ?_ z oq) (xlocs hl (hR.old ho (xro3 (by decide))))
  · rw [e1]; rw [h1] at q; cases q; rfl
  · funext q
    by_cases hq : q = j.toNatClampNeg
    · subst hq; simp [updV, xvl, upd]
    · simp [updV, xvl, upd, hq]
theorem xw_zast (hx : p.tables.exec = Jvm.exec) (hb : c.code = cc) (hR : xHR D cl H0 s h H) (hl : ∀ q ∈ locs, H0.size ≤ q.base) {o n : Nat} {g : Nat → Int32} {j x : Int32} (ho : h.1 o = some (.inl (2, n, .inl g))) (hb2 : x = 0 ∨ x = 1) (hj : ¬ (j < 0 ∨ n ≤ j.toNatClampNeg)) (hd : decode cc pc = .ok (.bastore, 1))
    (kk : ∀ (H1 : Heap) (locs1 : List Loc), xHR D cl H0 s (xset h o (xA 2 n (xint (upd g j.toNatClampNeg x)))) H1 → (∀ q ∈ locs1, H0.size ≤ q.base) → W p l e R s m args below meth c H1 locs1 cells slots Q (F0 m (pc + 1) ls rest)) : W p l e R s m args below meth c H locs cells slots Q (F0 m pc ls (.int x :: .int j :: .ref o :: rest)) := by
  obtain ⟨cell, h1, h2, h3, h4, h5⟩ := xsz hR ho
  have hn : narrow .boolean (.int x) = .int x := by rcases hb2 with rfl | rfl <;> rfl
  refine W.zast hx hb h1 h2 h3 (by rw [h4]; exact hj) rfl rfl hd fun H1 e1 z oq => ?_
  refine kk H1 _ (xst_arr (k := j.toNatClampNeg) (x := .int x) hR ho (by decide) (fun cA q => ?_) ?_ z oq) (xlocs hl (hR.old ho (xro3 (by decide))))
  · rw [e1, hn]; rw [h1] at q; cases q; rfl
  · funext q
    by_cases hq : q = j.toNatClampNeg
    · subst hq; simp [updV, xvl, upd]
    · simp [updV, xvl, upd, hq]
theorem xw_last (hx : p.tables.exec = Jvm.exec) (hb : c.code = cc) (hR : xHR D cl H0 s h H) (hl : ∀ q ∈ locs, H0.size ≤ q.base) {o n : Nat} {g : Nat → Int64} {j : Int32} {x : Int64} (ho : h.1 o = some (.inl (1, n, .inr (.inl g)))) (hj : ¬ (j < 0 ∨ n ≤ j.toNatClampNeg)) (hd : decode cc pc = .ok (.lastore, 1))
    (kk : ∀ (H1 : Heap) (locs1 : List Loc), xHR D cl H0 s (xset h o (xA 1 n (xlng (vp_updL g j.toNatClampNeg x)))) H1 → (∀ q ∈ locs1, H0.size ≤ q.base) → W p l e R s m args below meth c H1 locs1 cells slots Q (F0 m (pc + 1) ls rest)) : W p l e R s m args below meth c H locs cells slots Q (F0 m pc ls (.long x :: .int j :: .ref o :: rest)) := by
  obtain ⟨cell, h1, h2, h3, h4, h5⟩ := xsz hR ho
  refine W.last hx hb h1 h2 h3 (by rw [h4]; exact hj) rfl rfl hd fun H1 e1 z oq => ?_
  refine kk H1 _ (xst_arr (k := j.toNatClampNeg) (x := .long x) hR ho (by decide) (fun cA q => ?_) ?_ z oq) (xlocs hl (hR.old ho (xro3 (by decide))))
  · rw [e1]; rw [h1] at q; cases q; rfl
  · funext q
    by_cases hq : q = j.toNatClampNeg
    · subst hq; simp [updV, xvl, vp_updL]
    · simp [updV, xvl, vp_updL, hq]
theorem xw_aast (hx : p.tables.exec = Jvm.exec) (hb : c.code = cc) (hK : va_K D cl [] s) (hR : xHR D cl H0 s h H) (hl : ∀ q ∈ locs, H0.size ≤ q.base) {o n w k : Nat} {fs : List Value} {g : Nat → Option Nat} {j : Int32} (ho : h.1 o = some (.inl (5 + k, n, .inr (.inr (.inr (.inr g)))))) (hw : h.1 w = some (.inr (k, fs))) (hj : ¬ (j < 0 ∨ n ≤ j.toNatClampNeg)) (hd : decode cc pc = .ok (.aastore, 1))
    (kk : ∀ (H1 : Heap) (locs1 : List Loc), xHR D cl H0 s (xset h o (xA (5 + k) n (xref (va_up g j.toNatClampNeg (some w))))) H1 → (∀ q ∈ locs1, H0.size ≤ q.base) → W p l e R s m args below meth c H1 locs1 cells slots Q (F0 m (pc + 1) ls rest)) : W p l e R s m args below meth c H locs cells slots Q (F0 m pc ls (.ref w :: .int j :: .ref o :: rest)) := by
  obtain ⟨r, hr, cellW, w1, w2, w3, -⟩ := (hR.2.2.2 w _ hw).1
  have hty : xty cl (5 + k) = .object r.1 := by
    rw [show 5 + k = k + 5 by omega]
    show FieldType.object ((cl[k]?.map (fun r => r.1)).getD "") = _
    rw [hr]; rfl
  obtain ⟨hcls, kC, hkC, hkind⟩ := (hK.1 k r hr).2
  rcases (hR.2.2.2 o _ ho).1 with ⟨h0, -⟩ | ⟨-, cA, h1, h2, h3⟩
  · have h0 : 5 + k = 3 := h0
    omega
  · have h1 : H[o]? = some (arrV cA n (xvl (xref g))) := h1
    have h3 : va_RA s cA (xty cl (5 + k)) := h3
    rw [hty] at h3
    obtain ⟨kA, comp, k1, k2, k3, -⟩ := h3
    have hcomp : comp = D.1 k := Option.some.inj (k3.symm.trans hcls)
    subst hcomp
    refine W.aast hx hb h1 (fun q z => by cases z) (fun z => by cases z) k1 k2 rfl hkC ⟨fun z => hj (Or.inl z), by rw [arrV_size]; omega⟩ w1 (fun q z => by rw [w3] at z; cases z) (by rw [w2]; exact hkC) (by rw [w2]; exact va_assign ⟨hcls, kC, hkC, hkind⟩) rfl rfl hd fun H1 e1 z oq => ?_
    refine kk H1 _ (xst_arr (k := j.toNatClampNeg) (x := .ref w) hR ho (by omega) (fun cA' q => ?_) ?_ z oq) (xlocs hl (hR.old ho (by show ¬ (5 + k = 3); omega)))
    · rw [e1]
      have q : H[o]? = some (arrV cA' n (xvl (xref g))) := q
      rw [h1] at q
      exact congrArg (fun z : Cell => some (z.setSlot j.toNatClampNeg (.ref w))) (Option.some.inj q)
    · funext q
      by_cases hq : q = j.toNatClampNeg
      · subst hq; simp [updV, xvl, va_up, va_rf]
      · simp [updV, xvl, va_up, hq]
theorem xw_get {WL : List Cond} (hx : p.tables.exec = Jvm.exec) (hb : c.code = cc) (hts : ∀ w ∈ WL, w.before args s = true) (hK : va_K D cl [] s) (hR : xHR D cl H0 s h H) {own C : String} {T : u_T} {N ci idx o : Nat} {fs : List Value} (hin : ∀ w ∈ u_ws C T N, w ∈ WL) (hown : s.vm.findClass own = some m.cls)
    (ho : h.1 o = some (.inr (ci, fs))) (hc : cl[ci]? = some (C, T, N)) {k : Nat} (hk : k < N) (hlink : (Cond.fieldLink own idx (T k).1 (T k).2.1 (T k).2.2.1).before args s = true) {v : Value} (hv : fs[k]? = some v) (hd : decode cc pc = .ok (.getfield idx, 3))
    (kk : W p l e R s m args below meth c H locs cells slots Q (F0 m (pc + 3) ls (v :: rest))) : W p l e R s m args below meth c H locs cells slots Q (F0 m pc ls (.ref o :: rest)) := by
  have hP : va_P D cl [(o, .inr (ci, fs))] H := by
    intro k q hq
    have hz : k < 1 := (List.getElem?_eq_some_iff.mp hq).1
    rw [show k = 0 by omega] at hq
    cases hq
    exact (hR.2.2.2 o _ ho).1
  exact va_get hx hb hts hin hown hK hP 0 rfl hc k hk hlink (fun _ z => z) hv hd kk
theorem xw_put {WL : List Cond} (hx : p.tables.exec = Jvm.exec) (hb : c.code = cc) (hts : ∀ w ∈ WL, w.before args s = true) (hK : va_K D cl [] s) (hR : xHR D cl H0 s h H) (hl : ∀ q ∈ locs, H0.size ≤ q.base) {own C : String} {T : u_T} {N ci idx o : Nat} {fs : List Value} (hin : ∀ w ∈ u_ws C T N, w ∈ WL)
    (ty0 : Nat → FieldType) (hty : ∀ k, k < N → parseFieldDescriptor (T k).2.2.1 = some (ty0 k)) (hnm : ∀ a, a < N → ∀ b, b < N → a ≠ b → (T a).2.1 ≠ (T b).2.1) (hown : s.vm.findClass own = some m.cls)
    (ho : h.1 o = some (.inr (ci, fs))) (hc : cl[ci]? = some (C, T, N)) {k : Nat} (hk : k < N) (hlink : (Cond.fieldLink own idx (T k).1 (T k).2.1 (T k).2.2.1).before args s = true)
    (hfin : (T k).2.2.2 = false ∨ ((T k).2.2.2 = true ∧ meth.name = "<init>" ∧ (T k).1 = own)) {v : Value} (hn : narrow (ty0 k) v = v) (hfit : fits (ty0 k) v = true) (hlen : k < fs.length) (hd : decode cc pc = .ok (.putfield idx, 3))
    (kk : ∀ (H1 : Heap) (locs1 : List Loc), xHR D cl H0 s (xset h o (xO' ci (xupd fs k v))) H1 → (∀ q ∈ locs1, H0.size ≤ q.base) → W p l e R s m args below meth c H1 locs1 cells slots Q (F0 m (pc + 3) ls rest)) : W p l e R s m args below meth c H locs cells slots Q (F0 m pc ls (v :: .ref o :: rest)) := by
  have hap := va_apart (own := own) hts hin ty0 hty hnm hK hc
  obtain ⟨r, h1, cell, q1, q2, q3, q4⟩ := (hR.2.2.2 o _ ho).1
  have hr : r = (C, T, N) := Option.some.inj (h1.symm.trans hc)
  subst hr
  obtain ⟨hS, hfc, kC, hkC, hkind⟩ := hK.1 ci _ hc
  obtain ⟨cf, kf, fi, f, hi, hsl⟩ := hS k hk
  have hst := (u_facts hfc hkC (u_lays hts hin hk) hi).1
  have hlay := hts _ (hin _ (u_in_lay hk))
  have done : ∀ H' : Heap, H'[o]? = some (cell.setSlot f.slot v) → H'.size = H.size → (∀ q : Nat, q ≠ o → H'[q]? = H[q]?) → W p l e R s m args below meth c H' (locs ++ [⟨o, f.slot⟩]) cells slots Q (F0 m (pc + 3) ls rest) := by
    intro H' e1 e2 e3
    refine kk H' _ (hR.set ho (fun z => z) ?_ e2 e3) (xlocs hl (hR.old ho (fun z => z)))
    rw [hsl] at e1
    refine ⟨_, hc, t_OB.to (V := updV (vp_V fs) k v) ⟨_, e1, q2, q3, t_set q4 hap hk v⟩ (fun j _ => ?_)⟩
    show _ = vp_V (xupd fs k v) j
    rw [xupd_eq]
    exact vp_updV_set hlen v j
  unfold u_lay at hlay
  rcases hfin with hfin | ⟨hfin, hini, hdecl⟩
  · rw [if_neg (by rw [hfin]; decide)] at hlay
    have h6 := u_store hfc hkC hkind hlay hi (hty k hk) hn hfit
    exact W.putK hx hb (f := f) ⟨hown, hlink, ⟨_, _, _, hi⟩, hst⟩ (by rw [q2]; exact h6) q1 q3 (by rw [hsl]; exact k2_hasslot (q4 k hk)) rfl rfl hd done
  · rw [if_pos hfin] at hlay
    have hcf : m.cls = cf := by
      obtain ⟨_, _, c', _, _, _, -, -, hf', -, -, -, hown2, -⟩ := Cond.laysFinal_spec hlay
      have e1 : c' = cf := by have := hi.symm.trans hf'; simp at this; exact this.1.symm
      rw [hdecl] at hown2
      rw [← e1]; exact Option.some.inj (hown.symm.trans hown2)
    have h6 := u_fits hfc hkC hkind (Or.inr hlay) hi (hty k hk) hn hfit
    exact W.putFinK hx hb hown hlink hi hst hcf hini (by rw [q2]; exact h6) q1 q3 (by rw [hsl]; exact k2_hasslot (q4 k hk)) rfl rfl hd done
theorem xw_new {WL : List Cond} (hx : p.tables.exec = Jvm.exec) (hb : c.code = cc) (hts : ∀ w ∈ WL, w.before args s = true) (hK : va_K D cl [] s) (hR : xHR D cl H0 s h H) {own C : String} {T : u_T} {N n ci idx : Nat} {fs : List Value} (hin : ∀ w ∈ u_ws C T N, w ∈ WL)
    (ty0 : Nat → FieldType) (hty : ∀ k, k < N → parseFieldDescriptor (T k).2.2.1 = some (ty0 k)) (hown : s.vm.findClass own = some m.cls) (hc : cl[ci]? = some (C, T, N)) (hcl : (Cond.classLink own idx C).before args s = true) (hins : (Cond.instantiable C n).before args s = true) (hini : (Cond.initialized C).before args s = true)
    (hfs : ∀ j, j < N → defaultValue (ty0 j) = vp_V fs j) (hcells : cells + 1 ≤ R.cells) (hslots : slots + n ≤ R.slots) (hd : decode cc pc = .ok (.new idx, 3))
    (kk : ∀ H1 : Heap, xHR D cl H0 s (xnew h (xO' ci fs) n) H1 → W p l e R s m args below meth c H1 locs (cells + 1) (slots + n) Q (F0 m (pc + 3) ls (.ref h.2.1 :: rest))) : W p l e R s m args below meth c H locs cells slots Q (F0 m pc ls rest) := by
  have hKn := hK.1 ci _ hc
  refine W.newcK hx hb hown hcl hins hini rfl hd hcells hslots hKn.2.1 hR.1 fun H1 kC hkC e1 z1 o1 => ?_
  refine kk H1 (hR.new ?_ (by rw [z1, hR.1]) (fun q hq => o1 q (by rw [← hR.1]; exact hq)))
  rw [hR.1]
  exact ⟨_, hc, (u_born ty0 hts hin hKn hkC e1 hty).to hfs⟩
theorem xzero_val {t : Nat} {ty : FieldType} (h : (t = 0 ∧ ty = .int) ∨ (t = 1 ∧ ty = .long) ∨ (t = 2 ∧ ty = .boolean)) : (fun _ : Nat => defaultValue ty) = xvl (xzero t) := by
  rcases h with ⟨rfl, rfl⟩ | ⟨rfl, rfl⟩ | ⟨rfl, rfl⟩ <;> rfl
theorem xw_newa (hx : p.tables.exec = Jvm.exec) (hb : c.code = cc) (hR : xHR D cl H0 s h H) {atype : ArrayType} {t : Nat} (ht : (t = 0 ∧ newarray.typeOf atype = .int) ∨ (t = 1 ∧ newarray.typeOf atype = .long) ∨ (t = 2 ∧ newarray.typeOf atype = .boolean)) (harr : (Cond.arrayClass (newarray.typeOf atype)).before args s = true)
    {n : Int32} (hn : ¬ n < 0) (hbig : n.toNatClampNeg ≤ 1000000) (hcells : cells + 1 ≤ R.cells) (hslots : slots + n.toNatClampNeg ≤ R.slots) (hd : decode cc pc = .ok (.newarray atype, 2))
    (kk : ∀ H1 : Heap, xHR D cl H0 s (xnew h (xA t n.toNatClampNeg (xzero t)) n.toNatClampNeg) H1 → W p l e R s m args below meth c H1 locs (cells + 1) (slots + n.toNatClampNeg) Q (F0 m (pc + 2) ls (.ref h.2.1 :: rest))) : W p l e R s m args below meth c H locs cells slots Q (F0 m pc ls (.int n :: rest)) := by
  have hty : newarray.typeOf atype = xty cl t := by rcases ht with ⟨rfl, h2⟩ | ⟨rfl, h2⟩ | ⟨rfl, h2⟩ <;> exact h2
  have hbytes : n.toNatClampNeg * componentBytes (newarray.typeOf atype) ≤ 536870912 := by
    have : componentBytes (newarray.typeOf atype) ≤ 8 := by rcases ht with ⟨rfl, h2⟩ | ⟨rfl, h2⟩ | ⟨rfl, h2⟩ <;> (rw [h2]; decide)
    exact Nat.le_trans (Nat.mul_le_mul hbig this) (by decide)
  refine va_newaK hx hb harr rfl hd rfl hn rfl hbytes hcells hslots hR.1 fun H1 cA e1 z1 o1 hAr hNm => ?_
  refine kk H1 (hR.new ?_ (by rw [z1, hR.1]) (fun q hq => o1 q (by rw [← hR.1]; exact hq)))
  rw [hR.1]
  have ht3 : t ≠ 3 := by rcases ht with ⟨rfl, -⟩ | ⟨rfl, -⟩ | ⟨rfl, -⟩ <;> decide
  refine Or.inr ⟨ht3, cA, ?_, ?_, ?_⟩
  · rw [e1, xzero_val ht]
  · show ArrOfT s cA (xty cl t)
    rw [← hty]; exact hAr
  · show va_RA s cA (xty cl t)
    rw [← hty]
    rcases ht with ⟨rfl, h2⟩ | ⟨rfl, h2⟩ | ⟨rfl, h2⟩ <;> (rw [h2] at hNm ⊢; exact hNm)
theorem xw_newq (hx : p.tables.exec = Jvm.exec) (hb : c.code = cc) (hR : xHR D cl H0 s h H) {own : String} {r : vw_C} {k idx : Nat} (hc : cl[k]? = some r) (hown : s.vm.findClass own = some m.cls) (hcl : (Cond.classLink own idx r.1).before args s = true) (hover : (Cond.arrayOver (.object r.1)).before args s = true)
    {n : Int32} (hn : ¬ n < 0) (hbig : n.toNatClampNeg ≤ 1000000) (hcells : cells + 1 ≤ R.cells) (hslots : slots + n.toNatClampNeg ≤ R.slots) (hd : decode cc pc = .ok (.anewarray idx, 3))
    (kk : ∀ H1 : Heap, xHR D cl H0 s (xnew h (xA (5 + k) n.toNatClampNeg (xzero (5 + k))) n.toNatClampNeg) H1 → W p l e R s m args below meth c H1 locs (cells + 1) (slots + n.toNatClampNeg) Q (F0 m (pc + 3) ls (.ref h.2.1 :: rest))) : W p l e R s m args below meth c H locs cells slots Q (F0 m pc ls (.int n :: rest)) := by
  have hty : xty cl (5 + k) = .object r.1 := by
    rw [show 5 + k = k + 5 by omega]
    show FieldType.object ((cl[k]?.map (fun r => r.1)).getD "") = _
    rw [hc]; rfl
  have hz : xzero (5 + k) = xref (fun _ => none) := by rw [show 5 + k = k + 5 by omega]; rfl
  refine W.anew hx hb hown hcl hover rfl hd rfl hn (Nat.le_trans (Nat.mul_le_mul_right 4 hbig) (by decide)) hcells hslots fun cA kA comp f1 f2 f3 f4 => ?_
  rw [hR.1]
  refine kk _ (hR.new ?_ (by simp) (fun q hq => by rw [Array.getElem?_push, if_neg (Nat.ne_of_lt hq)]))
  refine Or.inr ⟨by show 5 + k ≠ 3; omega, cA, ?_, ?_, ?_⟩
  · show _ = some (arrV cA n.toNatClampNeg (xvl (xzero (5 + k))))
    rw [hz, Array.getElem?_push_size]
    exact congrArg some (arrV_new cA n.toNatClampNeg Value.null)
  · show ArrOfT s cA (xty cl (5 + k))
    rw [hty]
    exact fun N z => ⟨(fun k h => by cases h), kA, f2, comp, f3⟩
  · show va_RA s cA (xty cl (5 + k))
    rw [hty]
    exact ⟨kA, comp, f2, f3, f4, f1⟩
end XW
end
section
/-! calls from inside the walk, and what is thrown -/
section XC
variable {p : Program} {l : Launch} {e : Env} {R : Room} {s : State} {m : MethodId} {args : Array Value} {below : List Frame} {meth : Method} {c : Code} {T : State} {locs : List Loc} {cells slots : Nat}
theorem x_go_cold {E : CtlPost} {d : Bool} {acts : List Action} {u : State} {f : JFrame} {a : Addr} {Q : Handler → Pre} {x : ExceptionTableEntry} {t : List ExceptionTableEntry} {k : ClassId} {cell : Cell} {vm' : Vm} (hx : covers x f.pc = true) (h0 : x.catchType ≠ 0)
    (hg : (Jvm.resolveClass f.method.cls x.catchType).Gives e.toSetting u.vm (.ok k) vm') (hsz : vm'.classes.size ≤ u.vm.classes.size) (hcell : u.heap[a]? = some cell) (hobj : ∀ q, cell.vm ≠ .statics q)
    (hk : ∃ q, vm'.classes[cell.cls]? = some q) (hc : ∃ q, vm'.classes[k]? = some q) :
    wp (findHandler.go f a (x :: t)) Q E e d acts u ↔
      if vm'.assignable cell.cls k = true then Q (.found x.handlerPc) d acts (u.setVm vm') else wp (findHandler.go f a t) Q E e d acts (u.setVm vm') := by
  simp only [covers] at hx
  obtain ⟨ha, ht⟩ := hg.op (op := VmOp.resolveClass f.method.cls x.catchType) rfl
  cases hfit : vm'.assignable cell.cls k <;>
    simp [findHandler.go, hx, h0, ha, ht, hsz, hcell, hobj, hk, hc, hfit, VmOp.dirties, VmOp.acts]
def xFinds (e : Env) (u : State) (f : JFrame) (a : Addr) (pc : Nat) (vm' : Vm) : Prop :=
  ∀ (Q : Handler → Pre) (E : CtlPost) (d : Bool) (acts : List Action), wp (findHandler f a) Q E e d acts u ↔ Q (.found pc) d acts (u.setVm vm')
theorem x_catch_step {u : State} {a : Addr} {f : JFrame} {r : List Frame} {pc : Nat} {vm' : Vm} (hfind : xFinds e u f a pc vm') :
    (stepThrowing e u a (.java f :: r)).1 = (u.setVm vm').setFrames (.java { f with pc := pc, stack := [.ref a] } :: r) := by
  simp only [stepThrowing, searchFrame, vmDo]
  generalize hr : Sem.go _ e false [] u = res
  obtain ⟨as, rfl, ha⟩ := Sem.eq_ok_of hr (a := Handler.found pc) (s' := u.setVm vm') (acts' := []) (by simp [hfind _ _ _ _])
  rfl
theorem x_caught (X : Stand p l e R s m args below meth c T locs cells slots) {a : Addr} {g : JFrame} (hg : g.method = m) {pc : Nat} {vm' : Vm} (hfind : xFinds e ((T.setTop g).pushFrame (.throwing a)) g a pc vm') {target : State}
    (hrest : Steps p.tables e below ((T.setVm vm').setTop { g with pc := pc, stack := [.ref a] }) target) : Steps p.tables e below ((T.setTop g).pushFrame (.throwing a)) target := by
  have h : At T g.method c below := by rw [hg]; exact X.here
  obtain ⟨hgo, hw⟩ := h.throwing a
  refine Steps.head hgo hw ?_
  rw [stepThread_throwing (frames_entered h.top _), x_catch_step hfind]
  obtain ⟨g₀, hg0⟩ := Option.isSome_iff_exists.mp h.top
  obtain ⟨r, hr⟩ := State.topJava?_eq_some.mp hg0
  have e1 : ((T.setTop g).pushFrame (.throwing a)).setVm vm' = ((T.setVm vm').setTop g).pushFrame (.throwing a) := rfl
  have hr' : (T.setVm vm').frames = .java g₀ :: r := hr
  rw [e1, State.pushFrame, State.setFrames_setFrames, State.setTop_of_frames _ hr', State.setFrames_setFrames]
  rw [State.setTop_of_frames _ hr'] at hrest
  rw [hr]
  exact hrest
/-- the search through the table, entry by entry; each names a kind that links -/
theorem x_find {k0 : ClassId} {own : String} (hown : s.vm.findClass own = some m.cls) {f : JFrame} (hf : f.method = m) {a : Addr} {cell : Cell} (hadm : l.admits e) (hobj : ∀ q, cell.vm ≠ .statics q) (hk0 : cell.cls = k0) (hkc : ∃ q, s.vm.classes[k0]? = some q)
    {K : Nat → Option ClassId} {kx : Nat} (hkx : K kx = some k0) (hasg : ∀ (k : Nat) (q : ClassId), K k = some q → (s.vm.assignable k0 q = true ↔ k = kx)) :
    ∀ (t : List ExceptionTableEntry) (hs : List (Nat × Nat × Nat × Nat × Nat)), t.map (fun x => (x.startPc, x.endPc, x.handlerPc, x.catchType)) = hs.map (fun y => (y.1, y.2.1, y.2.2.1, y.2.2.2.1)) →
      (∀ y ∈ hs, y.2.2.2.1 ≠ 0 ∧ ∃ (nm : String) (q : ClassId), (∀ (a' : Array Value) (U : State), s.WarmedH U.vm → (Cond.classLink own y.2.2.2.1 nm).before a' U = true) ∧ s.vm.findClass nm = some q ∧ K y.2.2.2.2 = some q) →
      ∀ (u : State), s.WarmedH u.vm → u.heap[a]? = some cell → ∀ hp : Nat, xhd hs f.pc kx = some hp → ∃ vm' : Vm, s.WarmedH vm' ∧
        ∀ (Q : Handler → Pre) (E : CtlPost) (d : Bool) (acts : List Action), wp (findHandler.go f a t) Q E e d acts u ↔ Q (.found hp) d acts (u.setVm vm')
  | [], [], _, _, u, _, _, hp, h => by simp [xhd] at h
  | [], y :: ys, h, _, _, _, _, _, _ => by simp at h
  | x :: xs, [], h, _, _, _, _, _, _ => by simp at h
  | x :: xs, y :: ys, hmap, hall, u, hW, hcell, hp, hh => by
    obtain ⟨y1, y2, y3, y4, y5⟩ := y
    simp only [List.map_cons, List.cons.injEq, Prod.mk.injEq] at hmap
    obtain ⟨⟨m1, m2, m3, m4⟩, hmap⟩ := hmap
    have hall' : ∀ y ∈ ys, y.2.2.2.1 ≠ 0 ∧ ∃ (nm : String) (q : ClassId), (∀ (a' : Array Value) (U : State), s.WarmedH U.vm → (Cond.classLink own y.2.2.2.1 nm).before a' U = true) ∧ s.vm.findClass nm = some q ∧ K y.2.2.2.2 = some q := fun y hy => hall y (List.mem_cons_of_mem _ hy)
    obtain ⟨z0, nm, q, hlk, hfq, hKq⟩ := hall _ List.mem_cons_self
    dsimp only at z0 hlk hKq
    by_cases hcov : covers x f.pc = true
    · have hpl : e.platform.magicAccessors = ({} : Platform).magicAccessors := by rw [hadm.platform]
      have hl0 : (Cond.classLink own y4 nm).before #[] s = true := hlk #[] s (State.WarmedH.refl s)
      obtain ⟨q', hq', hcl⟩ := Cond.classLink_spec hown hl0 e.platform hpl
      cases hfq.symm.trans hq'
      obtain ⟨hg₁, hwarm₁, hready₁⟩ := State.classEntry (e := e) hW hcl
      generalize u.vm.noted m.cls y4 (.cls q) = vm₁ at hg₁ hwarm₁ hready₁
      obtain ⟨kk, hkk⟩ := hkc
      obtain ⟨kk', hkk', -⟩ := hwarm₁.alike.2.2 _ _ hkk
      obtain ⟨kq, hkq⟩ := Vm.classAt_of_findClass hfq
      obtain ⟨kq', hkq', -⟩ := hwarm₁.alike.2.2 _ _ hkq
      have hasg1 : vm₁.assignable k0 q = s.vm.assignable k0 q := hwarm₁.alike.assignable k0 q
      have hsz : vm₁.classes.size ≤ u.vm.classes.size := by rw [hwarm₁.2.1, hW.2.1]; exact Nat.le_refl _
      have step : ∀ (Q : Handler → Pre) (E : CtlPost) (d : Bool) (acts : List Action), wp (findHandler.go f a (x :: xs)) Q E e d acts u ↔ if vm₁.assignable cell.cls q = true then Q (.found x.handlerPc) d acts (u.setVm vm₁) else wp (findHandler.go f a xs) Q E e d acts (u.setVm vm₁) := by
        intro Q E d acts
        exact x_go_cold hcov (by rw [m4]; exact z0) (by rw [hf, m4]; exact hg₁) hsz hcell hobj ⟨kk', by rw [hk0]; exact hkk'⟩ ⟨kq', hkq'⟩
      rw [hk0, hasg1] at step
      have hcv : (Nat.ble y1 f.pc && Nat.blt f.pc y2) = true := by
        simp only [covers, Bool.and_eq_true, decide_eq_true_eq] at hcov
        rw [m1, m2] at hcov
        simp only [Bool.and_eq_true, Nat.ble_eq, Nat.blt_eq]
        exact hcov
      by_cases hkk5 : y5 = kx
      · have h1 := (hasg y5 q hKq).mpr hkk5
        simp only [xhd, hcv, Bool.true_and, hkk5, Nat.beq_refl, cond_true, Option.some.injEq] at hh
        refine ⟨vm₁, hwarm₁, fun Q E d acts => ?_⟩
        rw [step, if_pos h1, m3, hh]
      · have h1 : ¬ s.vm.assignable k0 q = true := fun z => hkk5 ((hasg y5 q hKq).mp z)
        have hb5 : Nat.beq y5 kx = false := by
          cases hz : Nat.beq y5 kx with
          | false => rfl
          | true => exact absurd (Nat.eq_of_beq_eq_true hz) hkk5
        simp only [xhd, hcv, hb5, Bool.true_and, cond_false] at hh
        obtain ⟨vm', w1, w2⟩ := x_find hown hf hadm hobj hk0 ⟨kk, hkk⟩ hkx hasg xs ys hmap hall' (u.setVm vm₁) hwarm₁ hcell hp hh
        refine ⟨vm', w1, fun Q E d acts => ?_⟩
        rw [step, if_neg h1, w2]
        rfl
    · have hcov' : covers x f.pc = false := by simpa using hcov
      have hcv : (Nat.ble y1 f.pc && Nat.blt f.pc y2) = false := by
        cases hz : (Nat.ble y1 f.pc && Nat.blt f.pc y2) with
        | false => rfl
        | true =>
          exfalso
          apply hcov
          simp only [Bool.and_eq_true, Nat.ble_eq, Nat.blt_eq] at hz
          simp only [covers, Bool.and_eq_true, decide_eq_true_eq, m1, m2]
          exact hz
      simp only [xhd, hcv, Bool.false_and, cond_false] at hh
      obtain ⟨vm', w1, w2⟩ := x_find hown hf hadm hobj hk0 hkc hkx hasg xs ys hmap hall' u hW hcell hp hh
      exact ⟨vm', w1, fun Q E d acts => (W.findHandler_go_skip hcov').trans (w2 Q E d acts)⟩
end XC
end
section
/-! what a table of instructions must keep, decided by a program -/
def xin (WL : List Cond) (k : Nat) (w : Cond) : Bool := decide (WL[k]? = some w)
theorem xin_mem {WL : List Cond} {k : Nat} {w : Cond} (h : xin WL k w = true) : w ∈ WL := List.mem_of_getElem? (of_decide_eq_true h)
def xdec (M : xM) (pc nx : Nat) (i : Instr) (k : Nat) : Bool := decide (decode (xby M) pc = .ok (i, k)) && Nat.beq nx (pc + k)
theorem xdec_spec {M : xM} {pc nx : Nat} {i : Instr} {k : Nat} (h : xdec M pc nx i k = true) : decode (xby M) pc = .ok (i, k) ∧ nx = pc + k := by
  simp only [xdec, Bool.and_eq_true] at h
  exact ⟨of_decide_eq_true h.1, Nat.eq_of_beq_eq_true h.2⟩
def xkind : Nat → FieldType → Bool
  | 0, .int => true
  | 1, .boolean => true
  | 2, .object _ => true
  | 2, .array _ => true
  | _, _ => false
def xnat (a : Nat) (t : ArrayType) : Bool := decide ((a = 0 ∧ newarray.typeOf t = .int) ∨ (a = 1 ∧ newarray.typeOf t = .long) ∨ (a = 2 ∧ newarray.typeOf t = .boolean))
def xlink (WL : List Cond) (host own : String) (p k : Nat) (y : MethodName) : Bool := xin WL p (.methodLink own k y) || xin WL p (.methodLinkNest own k y host)
def xpar (Z : xM) (b : Nat) : Bool := decide ((parseMethodDescriptor (xnm Z).desc).map (fun d => d.parameters.length) = some b)
def xroom (M Z : xM) : Bool := Nat.ble (xdp Z + 1) (xdp M) && Nat.ble (8 + (xml Z + 11) + xlc Z) (xlc M)
/-- a making and throwing: new, dup, ldc, the constructor, athrow -/
def xtok (WL HL : List Cond) (cl : List vw_C) (SL : List (String × Nat × String)) (NM : List String) (M : xM) (pc k a b : Nat) (hs : List Nat) : Bool :=
  decide (decode (xby M) pc = .ok (.new k, 3)) && decide (decode (xby M) (pc + 3) = .ok (.dup, 1)) && decide (decode (xby M) (pc + 4) = .ok (.ldc (hs.getD 0 0), 2)) && decide (decode (xby M) (pc + 6) = .ok (.invokespecial (hs.getD 1 0), 3)) && decide (decode (xby M) (pc + 9) = .ok (.athrow, 1)) &&
  decide (xhs M = []) && Nat.beq b 6 && Nat.ble 6 (xdp M) && Nat.ble 90 (xlc M) &&
  (match cl[a]? with
  | some (C, _, N) => Nat.beq N 0 && xin WL (hs.getD 2 0) (.classLink (xnm M).cls k C) && xin WL (hs.getD 3 0) (.instantiable C 6) && xin WL (hs.getD 4 0) (.initialized C) && Bundle.fit C &&
      (Bundle.ownAtoms (xnm M).cls (hs.getD 1 0) C NM).all (fun w => (decide (w ∈ WL)) || (decide (w ∈ HL)))
  | none => false) &&
  SL.any (fun q => decide (q.1 = (xnm M).cls) && Nat.beq q.2.1 (hs.getD 0 0))
def xok (WL HL : List Cond) (cl : List vw_C) (SL : List (String × Nat × String)) (NM : List String) (ty0 : Nat → Nat → FieldType) (sf : String × String × String) (host : String) (nG : Nat) (G : Nat → xM) (M : xM) (pc : Nat) (e : xI) : Bool := match e with
  | (i, nx, a, b, v, hs) => match i with
    | .iconst n => xdec M pc nx (.iconst n) 1 && decide (v = .int (Int32.ofInt n))
    | .bipush n => xdec M pc nx (.bipush n) 2 && decide (v = .int (Int8.ofInt n).toInt32)
    | .sipush n => xdec M pc nx (.sipush n) 3 && decide (v = .int (Int16.ofInt n).toInt32)
    | .lconst n => xdec M pc nx (.lconst n) 1 && decide (v = .long (Int64.ofNat n.val))
    | .ldc k => xdec M pc nx (.ldc k) 2 && (match v with | .int x => xin WL (hs.getD 0 0) (.constant (xnm M).cls k x) | _ => false)
    | .ldc_w k => xdec M pc nx (.ldc_w k) 3 && (match v with | .int x => xin WL (hs.getD 0 0) (.constant (xnm M).cls k x) | _ => false)
    | .ldc2_w k => xdec M pc nx (.ldc2_w k) 3 && (match v with | .long x => xin WL (hs.getD 0 0) (.constantLong (xnm M).cls k x) | _ => false)
    | .getstatic k => xdec M pc nx (.getstatic k) 3 && Nat.beq a 0 && xin WL (hs.getD 0 0) (.fieldLink (xnm M).cls k sf.1 sf.2.1 sf.2.2)
    | .iload k => xdec M pc nx (.iload k) 2 && Nat.beq a k
    | .iload_n k => xdec M pc nx (.iload_n k) 1 && Nat.beq a k.val
    | .lload k => xdec M pc nx (.lload k) 2 && Nat.beq a k
    | .lload_n k => xdec M pc nx (.lload_n k) 1 && Nat.beq a k.val
    | .aload k => xdec M pc nx (.aload k) 2 && Nat.beq a k
    | .aload_n k => xdec M pc nx (.aload_n k) 1 && Nat.beq a k.val
    | .istore k => xdec M pc nx (.istore k) 2 && Nat.beq a k
    | .istore_n k => xdec M pc nx (.istore_n k) 1 && Nat.beq a k.val
    | .lstore k => xdec M pc nx (.lstore k) 2 && Nat.beq a k
    | .lstore_n k => xdec M pc nx (.lstore_n k) 1 && Nat.beq a k.val
    | .astore k => xdec M pc nx (.astore k) 2 && Nat.beq a k
    | .astore_n k => xdec M pc nx (.astore_n k) 1 && Nat.beq a k.val
    | .iinc k n => xdec M pc nx (.iinc k n) 3 && Nat.beq a k && decide (v = .int (Int32.ofInt n))
    | .iadd => xdec M pc nx .iadd 1
    | .isub => xdec M pc nx .isub 1
    | .imul => xdec M pc nx .imul 1
    | .iand => xdec M pc nx .iand 1
    | .ior => xdec M pc nx .ior 1
    | .ixor => xdec M pc nx .ixor 1
    | .idiv => xdec M pc nx .idiv 1
    | .irem => xdec M pc nx .irem 1
    | .ineg => xdec M pc nx .ineg 1
    | .ishl => xdec M pc nx .ishl 1
    | .ishr => xdec M pc nx .ishr 1
    | .iushr => xdec M pc nx .iushr 1
    | .ladd => xdec M pc nx .ladd 1
    | .lsub => xdec M pc nx .lsub 1
    | .land => xdec M pc nx .land 1
    | .lor => xdec M pc nx .lor 1
    | .lshl => xdec M pc nx .lshl 1
    | .lushr => xdec M pc nx .lushr 1
    | .lcmp => xdec M pc nx .lcmp 1
    | .i2l => xdec M pc nx .i2l 1
    | .l2i => xdec M pc nx .l2i 1
    | .dup => xdec M pc nx .dup 1
    | .dup2 => xdec M pc nx .dup2 1
    | .dup_x1 => xdec M pc nx .dup_x1 1
    | .dup_x2 => xdec M pc nx .dup_x2 1
    | .pop => xdec M pc nx .pop 1
    | .ifCond c o => xdec M pc nx (.ifCond c o) 3 && decide ((pc : Int) + o = (a : Int))
    | .if_icmp c o => xdec M pc nx (.if_icmp c o) 3 && decide ((pc : Int) + o = (a : Int))
    | .goto o => xdec M pc nx (.goto o) 3 && decide ((pc : Int) + o = (a : Int))
    | .tableswitch d lo hi offs => decide (decode (xby M) pc = .ok (.tableswitch d lo hi offs, nx - pc)) && decide ((pc : Int) + d = (a : Int))
    | .ireturn => xdec M pc nx .ireturn 1
    | .lreturn => xdec M pc nx .lreturn 1
    | .areturn => xdec M pc nx .areturn 1
    | .return_ => xdec M pc nx .return_ 1
    | .getfield k => xdec M pc nx (.getfield k) 3 && (match cl[a]? with
      | some (_, T, N) => Nat.blt b N && xin WL (hs.getD 0 0) (.fieldLink (xnm M).cls k (T b).1 (T b).2.1 (T b).2.2.1)
      | none => false)
    | .putfield k => xdec M pc nx (.putfield k) 3 && (match cl[a]? with
      | some (_, T, N) => Nat.blt b N && xin WL (hs.getD 0 0) (.fieldLink (xnm M).cls k (T b).1 (T b).2.1 (T b).2.2.1) && (!(T b).2.2.2 || (decide ((xnm M).name = "<init>") && decide ((T b).1 = (xnm M).cls))) && (match v with | .retAddr q => xkind q (ty0 a b) | _ => false)
      | none => false)
    | .iaload => xdec M pc nx .iaload 1
    | .baload => xdec M pc nx .baload 1
    | .laload => xdec M pc nx .laload 1
    | .aaload => xdec M pc nx .aaload 1
    | .iastore => xdec M pc nx .iastore 1
    | .bastore => xdec M pc nx .bastore 1
    | .lastore => xdec M pc nx .lastore 1
    | .aastore => xdec M pc nx .aastore 1
    | .arraylength => xdec M pc nx .arraylength 1
    | .newarray t => xdec M pc nx (.newarray t) 2 && xnat a t && xin WL (hs.getD 0 0) (.arrayClass (newarray.typeOf t))
    | .anewarray k => xdec M pc nx (.anewarray k) 3 && Nat.ble 5 a && (match cl[a - 5]? with
      | some r => xin WL (hs.getD 0 0) (.classLink (xnm M).cls k r.1) && xin WL (hs.getD 1 0) (.arrayOver (.object r.1))
      | none => false)
    | .multianewarray k d => xdec M pc nx (.multianewarray k d) 4 && Nat.beq d 2 && Nat.beq a 4 && Nat.beq b 0 && xin WL (hs.getD 0 0) (.classLink (xnm M).cls k "[[I") && xin WL (hs.getD 1 0) (.arrayOver (.array .int)) && xin WL (hs.getD 2 0) (.arrayClass .int)
    | .new k => match v with
      | .null => xtok WL HL cl SL NM M pc k a b hs
      | _ => xdec M pc nx (.new k) 3 && (match cl[a]? with
        | some (C, _, _) => xin WL (hs.getD 0 0) (.classLink (xnm M).cls k C) && xin WL (hs.getD 1 0) (.instantiable C b) && xin WL (hs.getD 2 0) (.initialized C)
        | none => false)
    | .invokestatic k => match v with
      | .retAddr _ => xdec M pc nx (.invokestatic k) 3 && xin WL (hs.getD 0 0) (.methodLink (xnm M).cls k arraycopyName) && xin WL (hs.getD 1 0) (.native arraycopyName) && xin WL (hs.getD 2 0) (.static arraycopyName) && xin WL (hs.getD 3 0) (.initialized "java/lang/System") && Nat.ble 1 (xdp M) && Nat.ble (8 + (nativeFrameWords "java/lang/System" "arraycopy" 5 + 11)) (xlc M)
      | _ => xdec M pc nx (.invokestatic k) 3 && Nat.blt a nG && xlink WL host (xnm M).cls (hs.getD 0 0) k (xnm (G a)) && xin WL (hs.getD 1 0) (.static (xnm (G a))) && xpar (G a) b && xroom M (G a)
    | .invokevirtual k => xdec M pc nx (.invokevirtual k) 3 && Nat.blt a nG && xlink WL host (xnm M).cls (hs.getD 0 0) k (xnm (G a)) && xin WL (hs.getD 1 0) (.instanceMethod (xnm (G a))) && xin WL (hs.getD 2 0) (.selects (xnm (G a)).cls (xnm (G a)) (xnm (G a))) && Nat.blt 0 b && xpar (G a) (b - 1) && xroom M (G a) &&
        (match v with | .retAddr q => (match cl[q]? with | some (C, _, _) => decide (C = (xnm (G a)).cls) | none => false) | _ => false)
    | .invokespecial k => match v with
      | .null => xdec M pc nx (.invokespecial k) 3 && xin WL (hs.getD 0 0) (.methodLink (xnm M).cls k Lib.objectInit) && xin WL (hs.getD 1 0) (.instanceMethod Lib.objectInit) && xin WL (hs.getD 2 0) (.code Lib.objectInit ⟨#[0xb1]⟩ 1 none) && Nat.ble 1 (xdp M) && Nat.ble 20 (xlc M)
      | _ => xdec M pc nx (.invokespecial k) 3 && Nat.blt a nG && xlink WL host (xnm M).cls (hs.getD 0 0) k (xnm (G a)) && xin WL (hs.getD 1 0) (.instanceMethod (xnm (G a))) && decide ((xnm (G a)).name = "<init>") && decide (xhs (G a) = []) && decide (xrt (G a) = none) && Nat.blt 0 b && xpar (G a) (b - 1) && xroom M (G a)
    | _ => false
/-- a method's own words: its code, its holder -/
def xmok (WL : List Cond) (cl : List vw_C) (M : xM) (hs : List Nat) : Bool :=
  plainName (xnm M).cls && decide ((xnm M).cls ≠ "java/lang/invoke/MethodHandle") && decide ((xnm M).cls ≠ "java/lang/invoke/VarHandle") &&
  (match xhs M with
  | [] => xin WL (hs.getD 0 0) (.code (xnm M) (xby M) (xml M) (xrt M))
  | _ => xin WL (hs.getD 0 0) (.codeWith (xnm M) (xby M) (xml M) (xrt M) ((xhs M).map (fun y => (y.1, y.2.1, y.2.2.1, y.2.2.2.1))))) &&
  xin WL (hs.getD 1 0) (.initialized (xnm M).cls) &&
  (xhs M).all (fun y => !(Nat.beq y.2.2.2.1 0) && (match cl[y.2.2.2.2]? with
    | some (C, _, _) => (WL.any (fun w => decide (w = .classLink (xnm M).cls y.2.2.2.1 C)))
    | none => false))
theorem xlk1_mem : ∀ (t : List (Nat × xI)) (pc : Nat) (e : xI), xlk1 t pc = some e → (pc, e) ∈ t
  | [], _, _, h => by simp [xlk1] at h
  | (k, x) :: t, pc, e, h => by
    simp only [xlk1] at h
    cases hb : Nat.beq k pc with
    | true =>
      rw [hb] at h
      simp only [cond_true, Option.some.injEq] at h
      rw [← h, Nat.eq_of_beq_eq_true hb]
      exact List.mem_cons_self
    | false =>
      rw [hb] at h
      exact List.mem_cons_of_mem _ (xlk1_mem t pc e h)
theorem xlk_mem : ∀ (t : List (Nat × List (Nat × xI))) (pc : Nat) (e : xI), xlk t pc = some e → ∃ c ∈ t, (pc, e) ∈ c.2
  | [], _, _, h => by simp [xlk] at h
  | (k, x) :: t, pc, e, h => by
    simp only [xlk] at h
    cases hb : Nat.blt pc k with
    | true =>
      rw [hb] at h
      exact ⟨(k, x), List.mem_cons_self, xlk1_mem x pc e h⟩
    | false =>
      rw [hb] at h
      obtain ⟨c, h1, h2⟩ := xlk_mem t pc e h
      exact ⟨c, List.mem_cons_of_mem _ h1, h2⟩
theorem xall {P : Nat → xI → Bool} {t : List (Nat × List (Nat × xI))} (h : t.all (fun c => c.2.all (fun q => P q.1 q.2)) = true) : ∀ (pc : Nat) (e : xI), xlk t pc = some e → P pc e = true := by
  intro pc e he
  obtain ⟨c, h1, h2⟩ := xlk_mem t pc e he
  exact List.all_eq_true.mp (List.all_eq_true.mp h c h1) (pc, e) h2
end
section
/-! every run of the small machine is a run of the machine -/
def xWd (WL : List Cond) (s : State) : Prop := ∀ w ∈ WL, ∀ (a : Array Value) (U : State), s.WarmedH U.vm → w.before a U = true
def xHw (HL : List Cond) (H0 : Heap) (s : State) : Prop := ∀ w ∈ HL, ∀ (a : Array Value) (U : State), s.WarmedH U.vm → (∀ q : Nat, q < H0.size → U.heap[q]? = H0[q]?) → w.before a U = true
def xSw (SL : List (String × Nat × String)) (s : State) : Prop := ∀ q ∈ SL, ∃ a : Nat, ∀ U : State, s.WarmedH U.vm → vk_R q.1 q.2.1 q.2.2 a U
def xEx (D : va_G) (cl : List vw_C) (EX : List Nat) (s : State) : Prop := ∀ k ∈ EX, (∃ r : vw_C, cl[k]? = some r) ∧ ∀ k' ∈ EX, (s.vm.assignable (D.1 k) (D.1 k') = true ↔ k' = k)
def xSF (D : va_G) (cl : List vw_C) (H0 : Heap) (WL HL : List Cond) (SL : List (String × Nat × String)) (EX : List Nat) (V : Nat → Value) (sf : String × String × String) (s : State) : Prop :=
  xWd WL s ∧ xHw HL H0 s ∧ xSw SL s ∧ xEx D cl EX s ∧ va_K D cl [] s ∧ va_Z sf.1 sf.2.1 sf.2.2 (V 0) (fun q => H0.size ≤ q) s H0
theorem xSF.moved {D : va_G} {cl : List vw_C} {H0 : Heap} {WL HL : List Cond} {SL : List (String × Nat × String)} {EX : List Nat} {V : Nat → Value} {sf : String × String × String} {s u : State} (h : xSF D cl H0 WL HL SL EX V sf s) (hW : s.WarmedH u.vm) : xSF D cl H0 WL HL SL EX V sf u := by
  obtain ⟨h1, h2, h3, h4, h5, h6⟩ := h
  refine ⟨fun w hw a U hU => h1 w hw a U (State.WarmedH.trans hW hU), fun w hw a U hU hq => h2 w hw a U (State.WarmedH.trans hW hU) hq, fun q hq => ?_, fun k hk => ⟨(h4 k hk).1, fun k' hk' => ?_⟩, va_K.moved hW.alike h5, va_Z.moved hW.alike h6⟩
  · obtain ⟨a, ha⟩ := h3 q hq
    exact ⟨a, fun U hU => ha U (State.WarmedH.trans hW hU)⟩
  · rw [hW.alike.assignable]
    exact (h4 k hk).2 k' hk'
def xout (o : xO) (hf : xH) (oc : Outcome) : Prop := match o with
  | .inl v => oc = .returned v
  | .inr q => oc = .threw q.2 ∧ hf.1 q.2 = some (xO' q.1 [])
def xQ (D : va_G) (cl : List vw_C) (H0 : Heap) (s : State) (below : List Frame) (o : xO) (hf : xH) (N0 S0 : Nat) : State → Prop := fun t =>
  ∃ oc, t.status = .running ∧ Ended t below oc ∧ xout o hf oc ∧ xHR D cl H0 s hf t.heap ∧ s.WarmedH t.vm ∧ ∃ L, s.sameButNew ({ t with vm := s.vm } : State) L (hf.2.1 - N0) (hf.2.2 - S0) ∧ ∀ q ∈ L, H0.size ≤ q.base
def xgood (WL HL : List Cond) (cl : List vw_C) (SL : List (String × Nat × String)) (NM : List String) (EX : List Nat) (ty0 : Nat → Nat → FieldType) (sf : String × String × String) (host : String) (nG : Nat) (G : Nat → xM) (M : xM) : Prop :=
  (∃ hs, xmok WL cl M hs = true) ∧ (∀ y ∈ xhs M, y.2.2.2.2 ∈ EX) ∧ ∀ (pc : Nat) (e : xI), xcd M pc = some e → xok WL HL cl SL NM ty0 sf host nG G M pc e = true
def xCx (D : va_G) (cl : List vw_C) (H0 : Heap) (WL HL : List Cond) (SL : List (String × Nat × String)) (NM : List String) (EX : List Nat) (V : Nat → Value) (ty0 : Nat → Nat → FieldType) (sf : String × String × String) (host : String) (nG : Nat) (G : Nat → xM) (M : xM)
    (p : Program) (R : Room) (s : State) (m : MethodId) (meth : Method) (c : Code) : Prop :=
  p.tables.exec = Jvm.exec ∧ c.code = xby M ∧ c.maxLocals = xml M ∧ meth.sig.returnType = xrt M ∧ meth.locks = false ∧ s.methodNamed? (xnm M) = some m ∧ s.vm.method? m = some meth ∧
  c.exceptionTable.toList.map (fun x => (x.startPc, x.endPc, x.handlerPc, x.catchType)) = (xhs M).map (fun y => (y.1, y.2.1, y.2.2.1, y.2.2.2.1)) ∧ xSF D cl H0 WL HL SL EX V sf s ∧ xdp M ≤ R.frames ∧ xlc M ≤ R.locals ∧ xgood WL HL cl SL NM EX ty0 sf host nG G M
/-- the heap only grows -/
theorem xback_mono {ih : xM → xF → xH → Option xR} (hm : ∀ M f h r, ih M f h = some r → h.2.1 ≤ r.2.2.1 ∧ h.2.2 ≤ r.2.2.2) {M : xM} {pc nx : Nat} {l : List (Option Value)} {rest : List Value} {r0 r : xR} (h : xback ih M pc nx l rest r0 = some r) : r0.2.2.1 ≤ r.2.2.1 ∧ r0.2.2.2 ≤ r.2.2.2 := by
  unfold xback at h
  split at h
  · exact hm _ _ _ _ h
  · exact hm _ _ _ _ h
  · split at h
    · cases h; exact ⟨Nat.le_refl _, Nat.le_refl _⟩
    · obtain ⟨p, -, h⟩ := xS_s h
      exact hm _ _ _ _ h
theorem xcall_mono {G : Nat → xM} {ih : xM → xF → xH → Option xR} (hm : ∀ M f h r, ih M f h = some r → h.2.1 ≤ r.2.2.1 ∧ h.2.2 ≤ r.2.2.2) {M : xM} {pc nx z : Nat} {l : List (Option Value)} {as rest : List Value} {h : xH} {r : xR} (hc : xcall G ih M pc nx l z as rest h = some r) : h.2.1 ≤ r.2.2.1 ∧ h.2.2 ≤ r.2.2.2 := by
  obtain ⟨-, hc⟩ := xB_s hc
  obtain ⟨r0, h0, hc⟩ := xS_s hc
  have h1 := hm _ _ _ _ h0
  have h2 := xback_mono hm hc
  exact ⟨Nat.le_trans h1.1 h2.1, Nat.le_trans h1.2 h2.2⟩
theorem xbody_mono {V : Nat → Value} {F : Nat → List Value} {G : Nat → xM} {ih : xM → xF → xH → Option xR} (hm : ∀ M f h r, ih M f h = some r → h.2.1 ≤ r.2.2.1 ∧ h.2.2 ≤ r.2.2.2) {M : xM} {f : xF} {h : xH} {r : xR} (hb : xbody V F G ih M f h = some r) : h.2.1 ≤ r.2.2.1 ∧ h.2.2 ≤ r.2.2.2 := by
  obtain ⟨⟨i, nx, a, b, v, hs⟩, -, hb⟩ := xS_s hb
  unfold xop at hb
  dsimp only at hb
  · split at hb
    · exact hm _ _ _ _ hb
    · exact hm _ _ _ _ hb
    · exact hm _ _ _ _ hb
    · exact hm _ _ _ _ hb
    · exact hm _ _ _ _ hb
    · exact hm _ _ _ _ hb
    · exact hm _ _ _ _ hb
    · exact hm _ _ _ _ hb
    · obtain ⟨_, -, hb⟩ := xvI_s hb
      exact hm _ _ _ _ hb
    · obtain ⟨_, -, hb⟩ := xvI_s hb
      exact hm _ _ _ _ hb
    · obtain ⟨_, -, hb⟩ := xvL_s hb
      exact hm _ _ _ _ hb
    · obtain ⟨_, -, hb⟩ := xvL_s hb
      exact hm _ _ _ _ hb
    · obtain ⟨_, -, hb⟩ := xvA_s hb
      exact hm _ _ _ _ hb
    · obtain ⟨_, -, hb⟩ := xvA_s hb
      exact hm _ _ _ _ hb
    · obtain ⟨_, _, -, hb⟩ := xI1_s hb
      obtain ⟨_, -, hb⟩ := xS_s hb
      exact hm _ _ _ _ hb
    · obtain ⟨_, _, -, hb⟩ := xI1_s hb
      obtain ⟨_, -, hb⟩ := xS_s hb
      exact hm _ _ _ _ hb
    · obtain ⟨_, _, -, hb⟩ := xA1_s hb
      obtain ⟨_, -, hb⟩ := xS_s hb
      exact hm _ _ _ _ hb
    · obtain ⟨_, _, -, hb⟩ := xA1_s hb
      obtain ⟨_, -, hb⟩ := xS_s hb
      exact hm _ _ _ _ hb
    · obtain ⟨_, _, -, hb⟩ := xL1_s hb
      obtain ⟨_, -, hb⟩ := xS_s hb
      exact hm _ _ _ _ hb
    · obtain ⟨_, _, -, hb⟩ := xL1_s hb
      obtain ⟨_, -, hb⟩ := xS_s hb
      exact hm _ _ _ _ hb
    · obtain ⟨_, -, hb⟩ := xvI_s hb
      obtain ⟨_, -, hb⟩ := xvN_s hb
      obtain ⟨_, -, hb⟩ := xS_s hb
      exact hm _ _ _ _ hb
    · obtain ⟨_, _, _, -, hb⟩ := xI2_s hb
      exact hm _ _ _ _ hb
    · obtain ⟨_, _, _, -, hb⟩ := xI2_s hb
      exact hm _ _ _ _ hb
    · obtain ⟨_, _, _, -, hb⟩ := xI2_s hb
      exact hm _ _ _ _ hb
    · obtain ⟨_, _, _, -, hb⟩ := xI2_s hb
      exact hm _ _ _ _ hb
    · obtain ⟨_, _, _, -, hb⟩ := xI2_s hb
      exact hm _ _ _ _ hb
    · obtain ⟨_, _, _, -, hb⟩ := xI2_s hb
      exact hm _ _ _ _ hb
    · obtain ⟨_, _, _, -, hb⟩ := xI2_s hb
      exact hm _ _ _ _ hb
    · obtain ⟨_, _, _, -, hb⟩ := xI2_s hb
      exact hm _ _ _ _ hb
    · obtain ⟨_, _, _, -, hb⟩ := xI2_s hb
      exact hm _ _ _ _ hb
    · obtain ⟨_, _, _, -, hb⟩ := xI2_s hb
      obtain ⟨-, hb⟩ := xN_s hb
      exact hm _ _ _ _ hb
    · obtain ⟨_, _, _, -, hb⟩ := xI2_s hb
      obtain ⟨-, hb⟩ := xN_s hb
      exact hm _ _ _ _ hb
    · obtain ⟨_, _, -, hb⟩ := xI1_s hb
      exact hm _ _ _ _ hb
    · obtain ⟨_, _, _, -, hb⟩ := xL2_s hb
      exact hm _ _ _ _ hb
    · obtain ⟨_, _, _, -, hb⟩ := xL2_s hb
      exact hm _ _ _ _ hb
    · obtain ⟨_, _, _, -, hb⟩ := xL2_s hb
      exact hm _ _ _ _ hb
    · obtain ⟨_, _, _, -, hb⟩ := xL2_s hb
      exact hm _ _ _ _ hb
    · obtain ⟨_, _, _, -, hb⟩ := xLI_s hb
      exact hm _ _ _ _ hb
    · obtain ⟨_, _, _, -, hb⟩ := xLI_s hb
      exact hm _ _ _ _ hb
    · obtain ⟨_, _, _, -, hb⟩ := xL2_s hb
      exact hm _ _ _ _ hb
    · obtain ⟨_, _, -, hb⟩ := xI1_s hb
      exact hm _ _ _ _ hb
    · obtain ⟨_, _, -, hb⟩ := xL1_s hb
      exact hm _ _ _ _ hb
    · split at hb
      · exact hm _ _ _ _ (xB_s hb).2
      · cases hb
    · split at hb
      · exact hm _ _ _ _ (xB_s hb).2
      · cases hb
    · split at hb
      · exact hm _ _ _ _ (xB_s hb).2
      · cases hb
    · split at hb
      · exact hm _ _ _ _ (xB_s hb).2
      · cases hb
    · split at hb
      · exact hm _ _ _ _ (xB_s hb).2
      · cases hb
    · obtain ⟨_, _, -, hb⟩ := xI1_s hb
      unfold xif at hb
      repeat' split at hb
      all_goals exact hm _ _ _ _ hb
    · obtain ⟨_, _, _, -, hb⟩ := xI2_s hb
      unfold xif at hb
      repeat' split at hb
      all_goals exact hm _ _ _ _ hb
    · exact hm _ _ _ _ hb
    · obtain ⟨_, _, -, hb⟩ := xI1_s hb
      split at hb
      · exact hm _ _ _ _ hb
      · obtain ⟨_, -, hb⟩ := xS_s hb
        exact hm _ _ _ _ (xN_s hb).2
    · split at hb
      · cases hb; exact ⟨Nat.le_refl _, Nat.le_refl _⟩
      · obtain ⟨-, hb⟩ := xB_s hb
        cases hb; exact ⟨Nat.le_refl _, Nat.le_refl _⟩
      · cases hb
    · split at hb
      · cases hb; exact ⟨Nat.le_refl _, Nat.le_refl _⟩
      · cases hb
    · split at hb
      · cases hb; exact ⟨Nat.le_refl _, Nat.le_refl _⟩
      · cases hb; exact ⟨Nat.le_refl _, Nat.le_refl _⟩
      · cases hb
    · split at hb
      · cases hb; exact ⟨Nat.le_refl _, Nat.le_refl _⟩
      · cases hb
    · obtain ⟨_, _, -, hb⟩ := xA1_s hb
      obtain ⟨_, _, -, hb⟩ := xcO_s hb
      obtain ⟨-, hb⟩ := xB_s hb
      obtain ⟨_, -, hb⟩ := xS_s hb
      exact hm _ _ _ _ hb
    · obtain ⟨_, _, _, -, hb⟩ := xAV_s hb
      obtain ⟨_, -, hb⟩ := xvK_s hb
      obtain ⟨_, _, -, hb⟩ := xcO_s hb
      obtain ⟨-, hb⟩ := xB_s hb
      have h1 := hm _ _ _ _ hb
      exact h1
    · obtain ⟨_, _, _, -, hb⟩ := xAI_s hb
      obtain ⟨_, _, _, -, hb⟩ := xcI_s hb
      obtain ⟨-, hb⟩ := xB_s hb
      exact hm _ _ _ _ (xN_s hb).2
    · obtain ⟨_, _, _, -, hb⟩ := xAI_s hb
      obtain ⟨_, _, _, -, hb⟩ := xcI_s hb
      obtain ⟨-, hb⟩ := xB_s hb
      exact hm _ _ _ _ (xN_s hb).2
    · obtain ⟨_, _, _, -, hb⟩ := xAI_s hb
      obtain ⟨_, _, _, -, hb⟩ := xcL_s hb
      obtain ⟨-, hb⟩ := xB_s hb
      exact hm _ _ _ _ (xN_s hb).2
    · obtain ⟨_, _, _, -, hb⟩ := xAI_s hb
      obtain ⟨_, _, _, -, hb⟩ := xcR_s hb
      obtain ⟨-, hb⟩ := xB_s hb
      obtain ⟨-, hb⟩ := xN_s hb
      obtain ⟨_, -, hb⟩ := xS_s hb
      exact hm _ _ _ _ hb
    · obtain ⟨_, _, _, _, -, hb⟩ := xAII_s hb
      obtain ⟨_, _, _, -, hb⟩ := xcI_s hb
      obtain ⟨-, hb⟩ := xB_s hb
      have h1 := hm _ _ _ _ (xN_s hb).2
      exact h1
    · obtain ⟨_, _, _, _, -, hb⟩ := xAII_s hb
      obtain ⟨_, _, _, -, hb⟩ := xcI_s hb
      obtain ⟨-, hb⟩ := xB_s hb
      have h1 := hm _ _ _ _ (xN_s hb).2
      exact h1
    · obtain ⟨_, _, _, _, -, hb⟩ := xAIL_s hb
      obtain ⟨_, _, _, -, hb⟩ := xcL_s hb
      obtain ⟨-, hb⟩ := xB_s hb
      have h1 := hm _ _ _ _ (xN_s hb).2
      exact h1
    · obtain ⟨_, _, _, _, -, hb⟩ := xAIA_s hb
      obtain ⟨_, _, _, -, hb⟩ := xcR_s hb
      obtain ⟨_, _, -, hb⟩ := xcO_s hb
      obtain ⟨-, hb⟩ := xB_s hb
      have h1 := hm _ _ _ _ (xN_s hb).2
      exact h1
    · obtain ⟨_, _, -, hb⟩ := xA1_s hb
      obtain ⟨_, _, _, -, hb⟩ := xcA_s hb
      exact hm _ _ _ _ hb
    · obtain ⟨_, _, -, hb⟩ := xI1_s hb
      have h1 := hm _ _ _ _ (xN_s hb).2
      exact ⟨Nat.le_trans (Nat.le_succ _) h1.1, Nat.le_trans (Nat.le_add_right _ _) h1.2⟩
    · obtain ⟨_, _, -, hb⟩ := xI1_s hb
      have h1 := hm _ _ _ _ (xN_s hb).2
      exact ⟨Nat.le_trans (Nat.le_succ _) h1.1, Nat.le_trans (Nat.le_add_right _ _) h1.2⟩
    · obtain ⟨_, _, _, -, hb⟩ := xI2_s hb
      have h1 := hm _ _ _ _ (xN_s hb).2
      simp only [xgrid] at h1
      omega
    · split at hb
      · split at hb
        · cases hb; exact ⟨Nat.le_succ _, Nat.le_add_right _ _⟩
        · cases hb
      · have h1 := hm _ _ _ _ hb
        exact ⟨Nat.le_trans (Nat.le_succ _) h1.1, Nat.le_trans (Nat.le_add_right _ _) h1.2⟩
    · split at hb
      · obtain ⟨_, _, _, _, _, _, -, hb⟩ := xcopy_s hb
        obtain ⟨_, _, _, -, hb⟩ := xcI_s hb
        obtain ⟨_, _, _, -, hb⟩ := xcI_s hb
        obtain ⟨-, hb⟩ := xB_s hb
        obtain ⟨-, hb⟩ := xN_s hb
        have h1 := hm _ _ _ _ (xB_s hb).2
        exact h1
      · obtain ⟨_, -, hb⟩ := xS_s hb
        exact xcall_mono hm hb
    · obtain ⟨_, -, hb⟩ := xS_s hb
      split at hb
      · obtain ⟨_, -, hb⟩ := xvK_s hb
        obtain ⟨_, _, -, hb⟩ := xcO_s hb
        exact xcall_mono hm (xB_s hb).2
      · cases hb
    · split at hb
      · obtain ⟨_, _, -, hb⟩ := xA1_s hb
        exact hm _ _ _ _ (xB_s hb).2
      · obtain ⟨_, -, hb⟩ := xS_s hb
        split at hb
        · exact xcall_mono hm hb
        · cases hb
    · cases hb
theorem xrun_mono {V : Nat → Value} {F : Nat → List Value} {G : Nat → xM} : ∀ (n : Nat) (M : xM) (f : xF) (h : xH) (r : xR), xrun V F G n M f h = some r → h.2.1 ≤ r.2.2.1 ∧ h.2.2 ≤ r.2.2.2
  | 0, _, _, _, _, h => by cases h
  | n + 1, M, f, h, r, hr => xbody_mono (ih := xrun V F G n) (xrun_mono n) hr
end
section
/-! soundness, instruction by instruction -/
section XSND
variable {l : Launch} {D : va_G} {cl : List vw_C} {H0 : Heap} {V : Nat → Value} {F : Nat → List Value} {G : Nat → xM} {WL HL : List Cond} {SL : List (String × Nat × String)} {NM : List String} {EX : List Nat} {ty0 : Nat → Nat → FieldType} {sf : String × String × String} {host : String} {nG : Nat}
variable {p : Program} {e : Env} {R : Room} {s : State} {m : MethodId} {args : Array Value} {below : List Frame} {meth : Method} {c : Code}
/-- into a method and back: what the callee's run says of the caller's -/
theorem x_callee {T : State} {locs : List Loc} {cells slots : Nat} (X : Stand p l e R s m args below meth c T locs cells slots) {Z : xM} {g : JFrame} (hg : g.method = m) (hsize : g.locals.size = c.maxLocals) {ig : Instr} {len : Nat} (hdg : decode c.code g.pc = .ok (ig, len))
    {h hz : xH} {o : xO} {as : List Value} {mk : MethodId} {methZ : Method} {cZ : Code} (hmk : T.vm.method? mk = some methZ) (hck : methZ.code = some cZ) (hlk : methZ.locks = false) (hpk : T.plainMethod mk) (hmlz : cZ.maxLocals = xml Z) (hwt : xwt as ≤ xml Z)
    (hfr : xdp Z + 1 ≤ R.frames) (hlo : 2 * g.monitorRoom + (g.stack.map fun v => v.category).sum + (xml Z + 11) + xlc Z ≤ R.locals) (hce : cells + (hz.2.1 - h.2.1) ≤ R.cells) (hsl : slots + (hz.2.2 - h.2.2) ≤ R.slots)
    (hW : ∀ (ls : Array Slot), xl ls (xml Z) (xpad (xml Z) false as) → W p l e { frames := xdp Z, cells := hz.2.1 - h.2.1, slots := hz.2.2 - h.2.2, locals := xlc Z } (T.calling g mk as.toArray) mk as.toArray (.java g :: below) methZ cZ T.heap [] 0 0 (xQ D cl H0 (T.calling g mk as.toArray) (.java g :: below) o hz h.2.1 h.2.2) (F0 mk 0 ls [])) :
    (∃ (v : Option Value) (T' : State) (L : List Loc), o = .inl v ∧ Stand p l e R s m args below meth c T' (locs ++ L) (cells + (hz.2.1 - h.2.1)) (slots + (hz.2.2 - h.2.2)) ∧ (∀ q ∈ L, H0.size ≤ q.base) ∧ T.WarmedH T'.vm ∧ xHR D cl H0 T hz T'.heap ∧
        ∀ acts, Steps p.tables e below (doInvoke e (T.setTop g) acts mk as.toArray).1 (T'.setTop { g with pc := g.pc + len, stack := v.toList ++ g.stack })) ∨
    (∃ (k a : Nat) (T' : State) (L : List Loc), o = .inr (k, a) ∧ hz.1 a = some (xO' k []) ∧ Stand p l e R s m args below meth c T' (locs ++ L) (cells + (hz.2.1 - h.2.1)) (slots + (hz.2.2 - h.2.2)) ∧ (∀ q ∈ L, H0.size ≤ q.base) ∧ T.WarmedH T'.vm ∧ xHR D cl H0 T hz T'.heap ∧
        ∀ acts, Steps p.tables e below (doInvoke e (T.setTop g) acts mk as.toArray).1 ((T'.setTop g).pushFrame (.throwing a))) := by
  obtain ⟨Y, hin⟩ := X.into hg hsize hdg as.toArray (R' := { frames := xdp Z, cells := hz.2.1 - h.2.1, slots := hz.2.2 - h.2.2, locals := xlc Z }) hmk hck hlk hpk hfr (by rw [hmlz]; exact hlo) hce hsl
  rw [hmlz] at Y hin
  have hl := xl_entry as hwt
  obtain ⟨t, hst, oc, hrun, hend, hout, hR, hWm, L, hsame, hL⟩ := hW _ hl _ (by simp [State.pushFrame, State.setFrames, State.setTop, State.modifyTopJava]) Y
  rw [← lg_entry_eq] at hst
  have hst' : Steps p.tables e below (((T.setTop g).pushFrame (.java (entryFrame mk as.toArray (xml Z)))).setTop (entryFrame mk as.toArray (xml Z))) t := Steps.weaken (mid := [.java g]) (below := below) hst
  have hR' : xHR D cl H0 T hz t.heap := xHR.moved (U := T.calling g mk as.toArray) (U1 := T) (Vm.Alike.refl T.vm) hR
  cases o with
  | inl v =>
    have hout : oc = .returned v := hout
    subst hout
    obtain ⟨T', X', w1, w2, ht⟩ := X.outOf hg hdg hend hWm hsame
    refine Or.inl ⟨v, T', L, rfl, X', hL, w1, ?_, fun acts => ?_⟩
    · rw [ht] at hR'; simpa using hR'
    · rw [hin acts, ← ht]; exact hst'
  | inr q =>
    obtain ⟨k, a⟩ := q
    obtain ⟨hout, hcell⟩ : oc = .threw a ∧ hz.1 a = some (xO' k []) := hout
    subst hout
    obtain ⟨T', X', w1, w2, ht⟩ := X.outOfThrown hg hend hWm hsame
    refine Or.inr ⟨k, a, T', L, rfl, hcell, X', hL, w1, ?_, fun acts => ?_⟩
    · rw [ht, Stand.throwing_heap] at hR'; exact hR'
    · rw [hin acts, ← ht]; exact hst'
/-- the end of a walk by a note that is thrown -/
theorem x_leave {T : State} {locs : List Loc} {N0 S0 k a : Nat} {hf : xH} {target : State} {g : JFrame} (X : Stand p l e R s m args below meth c T locs (hf.2.1 - N0) (hf.2.2 - S0)) (hg : g.method = m) (hlk : g.locked = none) (hen : g.entered = []) (hout : ∀ x ∈ c.exceptionTable.toList, covers x g.pc = false) (hlocks : meth.locks = false)
    (hR : xHR D cl H0 s hf T.heap) (hc : hf.1 a = some (xO' k [])) (hl : ∀ q ∈ locs, H0.size ≤ q.base) (hs : Steps p.tables e below target ((T.setTop g).pushFrame (.throwing a))) :
    ∃ t, Steps p.tables e below target t ∧ xQ D cl H0 s below (.inr (k, a)) hf N0 S0 t := by
  obtain ⟨w1, w2, w3, w4, w5⟩ := X.leaveThrown a hg hlk hen hout hlocks
  exact ⟨_, hs.trans w1, .threw a, w2, w3, ⟨rfl, hc⟩, hR, w4, locs, w5, hl⟩
theorem xW_mono {H : Heap} {locs : List Loc} {cells slots : Nat} {Q Q' : State → Prop} {g : JFrame} (hq : ∀ t, Q t → Q' t) (w : W p l e R s m args below meth c H locs cells slots Q g) : W p l e R s m args below meth c H locs cells slots Q' g := by
  intro T hT X
  obtain ⟨t, a, b⟩ := w T hT X
  exact ⟨t, a, hq t b⟩
theorem xMQ {H : Heap} {hf : xH} {N0 S0 : Nat} {v : Option Value} (hR : xHR D cl H0 s hf H) : ∀ t, MQ below (fun _ st o t => o = .returned v ∧ t.heap = H) args s (hf.2.1 - N0) (hf.2.2 - S0) (fun q => H0.size ≤ q) t → xQ D cl H0 s below (.inl v) hf N0 S0 t := by
  rintro t ⟨o, h1, h2, ⟨rfl, h3⟩, L, ⟨-, h4, h5⟩, h6⟩
  exact ⟨_, h1, h2, rfl, by rw [h3]; exact hR, h4, L, h5, h6⟩
theorem x_mfacts {Z : xM} {hs : List Nat} (hok : xmok WL cl Z hs = true) (hw : xWd WL s) : ∃ (mk : MethodId) (methZ : Method) (cZ : Code), s.methodNamed? (xnm Z) = some mk ∧ s.vm.method? mk = some methZ ∧ methZ.code = some cZ ∧ cZ.code = xby Z ∧ cZ.maxLocals = xml Z ∧ methZ.sig.returnType = xrt Z ∧ methZ.locks = false ∧
    cZ.exceptionTable.toList.map (fun x => (x.startPc, x.endPc, x.handlerPc, x.catchType)) = (xhs Z).map (fun y => (y.1, y.2.1, y.2.2.1, y.2.2.2.1)) ∧ parseMethodDescriptor (xnm Z).desc = some methZ.sig ∧ (∃ k, s.vm.classes[mk.cls]? = some k ∧ k.init = .initialized) ∧ plainName (xnm Z).cls = true ∧ ((xnm Z).cls ≠ "java/lang/invoke/MethodHandle" ∧ (xnm Z).cls ≠ "java/lang/invoke/VarHandle") := by
  simp only [xmok, Bool.and_eq_true, decide_eq_true_eq] at hok
  obtain ⟨⟨⟨⟨⟨h1, h2⟩, h3⟩, h4⟩, h5⟩, -⟩ := hok
  have hini := hw _ (xin_mem h5) #[] s (State.WarmedH.refl s)
  have fin : ∀ mk : MethodId, s.methodNamed? (xnm Z) = some mk → ∃ k, s.vm.classes[mk.cls]? = some k ∧ k.init = .initialized := by
    intro mk hn
    obtain ⟨k, hk, -⟩ := className_of_methodNamed hn
    exact ⟨k, hk, Cond.initialized_spec (findClass_of_methodNamed hn) hk hini⟩
  cases hh : xhs Z with
  | nil =>
    rw [hh] at h4
    have hc := hw _ (xin_mem h4) #[] s (State.WarmedH.refl s)
    obtain ⟨mk, hn⟩ := Cond.code_named hc
    obtain ⟨meth, c, q1, q2, q3, q4, q5, q6, q7, q8⟩ := Cond.code_spec hn hc
    refine ⟨mk, meth, c, hn, q1, q2, q3, q4, q5, q6, ?_, q8, fin mk hn, h1, h2, h3⟩
    have : c.exceptionTable = #[] := by simpa using q7
    rw [this]; rfl
  | cons y ys =>
    rw [hh] at h4
    have hc := hw _ (xin_mem h4) #[] s (State.WarmedH.refl s)
    obtain ⟨mk, meth, c, hn, q1, q2, q3, q4, q5, q6, q7, q8⟩ := Cond.codeWith_spec hc
    exact ⟨mk, meth, c, hn, q1, q2, q3, q4, q6, q7, q5, q8, fin mk hn, h1, h2, h3⟩
/-- the claim at a number of steps -/
def xSnd (l : Launch) (D : va_G) (cl : List vw_C) (H0 : Heap) (V : Nat → Value) (F : Nat → List Value) (G : Nat → xM) (WL HL : List Cond) (SL : List (String × Nat × String)) (NM : List String) (EX : List Nat) (ty0 : Nat → Nat → FieldType) (sf : String × String × String) (host : String) (nG : Nat) (n : Nat) : Prop :=
  ∀ (M : xM) (f : xF) (h hf : xH) (o : xO), xrun V F G n M f h = some (o, hf) → ∀ (p : Program) (e : Env) (R : Room) (s : State) (m : MethodId) (args : Array Value) (below : List Frame) (meth : Method) (c : Code),
    xCx D cl H0 WL HL SL NM EX V ty0 sf host nG G M p R s m meth c → ∀ (N0 S0 : Nat), N0 ≤ h.2.1 → S0 ≤ h.2.2 → hf.2.1 - N0 ≤ R.cells → hf.2.2 - S0 ≤ R.slots →
    ∀ (H : Heap) (locs : List Loc) (ls : Array Slot), xHR D cl H0 s h H → xl ls (xml M) f.2.1 → (∀ q ∈ locs, H0.size ≤ q.base) →
      W p l e R s m args below meth c H locs (h.2.1 - N0) (h.2.2 - S0) (xQ D cl H0 s below o hf N0 S0) (F0 m f.1 ls f.2.2)
theorem x_call {n : Nat} (ih : xSnd l D cl H0 V F G WL HL SL NM EX ty0 sf host nG n) (hG : ∀ z, z < nG → xgood WL HL cl SL NM EX ty0 sf host nG G (G z)) {M : xM} (C : xCx D cl H0 WL HL SL NM EX V ty0 sf host nG G M p R s m meth c)
    {z pc : Nat} (hz : z < nG) {as rest st : List Value} {lo : List (Option Value)} {h hf : xH} {o : xO} {ig : Instr} (hcall : xcall G (xrun V F G n) M pc (pc + 3) lo z as rest h = some (o, hf)) (hdg : decode (xby M) pc = .ok (ig, 3)) (hroom : xroom M (G z) = true)
    {N0 S0 : Nat} (hN : N0 ≤ h.2.1) (hS : S0 ≤ h.2.2) (hRc : hf.2.1 - N0 ≤ R.cells) (hRs : hf.2.2 - S0 ≤ R.slots) {H : Heap} {locs : List Loc} {ls : Array Slot} (hR : xHR D cl H0 s h H) (hL : xl ls (xml M) lo) (hl : ∀ q ∈ locs, H0.size ≤ q.base)
    (hent : ∀ (T : State), T.heap = H → Stand p l e R s m args below meth c T locs (h.2.1 - N0) (h.2.2 - S0) → ∀ mk : MethodId, s.methodNamed? (xnm (G z)) = some mk → ∃ vm₁, s.WarmedH vm₁ ∧ Stand p l e R s m args below meth c (T.setVm vm₁) locs (h.2.1 - N0) (h.2.2 - S0) ∧
      ∀ target, (∀ acts, Steps p.tables e below (doInvoke e ((T.setVm vm₁).setTop (F0 m pc ls rest)) acts mk as.toArray).1 target) → Steps p.tables e below (T.setTop (F0 m pc ls st)) target) :
    W p l e R s m args below meth c H locs (h.2.1 - N0) (h.2.2 - S0) (xQ D cl H0 s below o hf N0 S0) (F0 m pc ls st) := by
  obtain ⟨hx, hb, hml, hrt, hlk, hnm, hmeth, htab, hsf, hfr, hlo, hgood⟩ := C
  have C' : xCx D cl H0 WL HL SL NM EX V ty0 sf host nG G M p R s m meth c := ⟨hx, hb, hml, hrt, hlk, hnm, hmeth, htab, hsf, hfr, hlo, hgood⟩
  obtain ⟨hwt, hcall⟩ := xB_s hcall
  obtain ⟨⟨oz, hzz⟩, hrz, hback⟩ := xS_s hcall
  simp only [Bool.and_eq_true, Nat.ble_eq] at hwt
  simp only [xroom, Bool.and_eq_true, Nat.ble_eq] at hroom
  have mo1 := xrun_mono n _ _ _ _ hrz
  have mo2 := xback_mono (xrun_mono n) hback
  dsimp only at mo1 mo2
  intro T hT X
  obtain ⟨⟨hsZ, hokZ⟩, hexZ, hokZ2⟩ := hG z hz
  obtain ⟨mk, methZ, cZ, q1, q2, q3, q4, q5, q6, q7, q8, q9, ⟨kZ, qk, qi⟩, q10, q11⟩ := x_mfacts (s := s) hokZ hsf.1
  obtain ⟨vm₁, hW₁, X₁, hst⟩ := hent T hT X mk q1
  have hmk' : (T.setVm vm₁).vm.method? mk = some methZ := hW₁.methodAt q2
  have hnk' : (T.setVm vm₁).methodNamed? (xnm (G z)) = some mk := X₁.named q1
  have hcat : 2 * (F0 m pc ls rest).monitorRoom + ((F0 m pc ls rest).stack.map fun v => v.category).sum ≤ 8 := by
    show 2 * 0 + (rest.map fun v => v.category).sum ≤ 8
    rw [← xwt_eq]; omega
  have hsz : (F0 m pc ls rest).locals.size = c.maxLocals := by rw [hml]; exact hL.1
  have hRT : xHR D cl H0 s h (T.setVm vm₁).heap := by show xHR D cl H0 s h T.heap; rw [hT]; exact hR
  have key := x_callee (D := D) (cl := cl) (H0 := H0) X₁ (Z := G z) (g := F0 m pc ls rest) rfl hsz (by rw [hb]; exact hdg) (h := h) (hz := hzz) (o := oz) (as := as) (mk := mk) hmk' q3 q7 (State.plainMethod.of_named (plainFor_of_name q10) hnk' hmk') q5 hwt.2
    (Nat.le_trans hroom.1 hfr) (by have := hroom.2; have := hlo; omega) (by omega) (by omega) (fun lsz hlz => by
      have w := ih (G z) (0, xpad (xml (G z)) false as, []) h hzz oz hrz p e { frames := xdp (G z), cells := hzz.2.1 - h.2.1, slots := hzz.2.2 - h.2.2, locals := xlc (G z) } ((T.setVm vm₁).calling (F0 m pc ls rest) mk as.toArray) mk as.toArray (.java (F0 m pc ls rest) :: below) methZ cZ
        ⟨hx, q4, q5, q6, q7, hnk', hmk', q8, hsf.moved (u := (T.setVm vm₁).calling (F0 m pc ls rest) mk as.toArray) hW₁, Nat.le_refl _, Nat.le_refl _, ⟨⟨hsZ, hokZ⟩, hexZ, hokZ2⟩⟩ h.2.1 h.2.2 (Nat.le_refl _) (Nat.le_refl _) (Nat.le_refl _) (Nat.le_refl _) (T.setVm vm₁).heap [] lsz
        (xHR.moved (U := s) (U1 := (T.setVm vm₁).calling (F0 m pc ls rest) mk as.toArray) hW₁.alike hRT) hlz (fun q hq => by cases hq)
      rw [Nat.sub_self, Nat.sub_self] at w
      exact w)
  rcases key with ⟨v, T', L, rfl, X', hL', w1, hR', hs'⟩ | ⟨k, a, T', L, rfl, hcell, X', hL', w1, hR', hs'⟩
  · have hWs : s.WarmedH T'.vm := State.WarmedH.trans hW₁ w1
    have hRs' : xHR D cl H0 s hzz T'.heap := xHR.moved (U := T.setVm vm₁) (U1 := s) hW₁.alike.symm hR'
    have hc1 : h.2.1 - N0 + (hzz.2.1 - h.2.1) = hzz.2.1 - N0 := by omega
    have hc2 : h.2.2 - S0 + (hzz.2.2 - h.2.2) = hzz.2.2 - S0 := by omega
    rw [hc1, hc2] at X'
    have hlocs : ∀ q ∈ locs ++ L, H0.size ≤ q.base := fun q hq => (List.mem_append.mp hq).elim (hl q) (hL' q)
    cases v with
    | none =>
      have hb2 : xrun V F G n M (pc + 3, lo, rest) hzz = some (o, hf) := hback
      obtain ⟨t, t1, t2⟩ := ih M _ hzz hf o hb2 p e R s m args below meth c C' N0 S0 (by omega) (by omega) hRc hRs T'.heap (locs ++ L) ls hRs' hL hlocs T' rfl X'
      exact ⟨t, hst _ (fun acts => (hs' acts).trans t1), t2⟩
    | some v =>
      have hb2 : xrun V F G n M (pc + 3, lo, v :: rest) hzz = some (o, hf) := hback
      obtain ⟨t, t1, t2⟩ := ih M _ hzz hf o hb2 p e R s m args below meth c C' N0 S0 (by omega) (by omega) hRc hRs T'.heap (locs ++ L) ls hRs' hL hlocs T' rfl X'
      exact ⟨t, hst _ (fun acts => (hs' acts).trans t1), t2⟩
  · have hWs : s.WarmedH T'.vm := State.WarmedH.trans hW₁ w1
    have hRs' : xHR D cl H0 s hzz T'.heap := xHR.moved (U := T.setVm vm₁) (U1 := s) hW₁.alike.symm hR'
    have hc1 : h.2.1 - N0 + (hzz.2.1 - h.2.1) = hzz.2.1 - N0 := by omega
    have hc2 : h.2.2 - S0 + (hzz.2.2 - h.2.2) = hzz.2.2 - S0 := by omega
    rw [hc1, hc2] at X'
    have hlocs : ∀ q ∈ locs ++ L, H0.size ≤ q.base := fun q hq => (List.mem_append.mp hq).elim (hl q) (hL' q)
    cases hhs : xhs M with
    | nil =>
      simp only [xback, hhs, Option.some.injEq, Prod.mk.injEq] at hback
      obtain ⟨rfl, rfl⟩ := hback
      have hempty : ∀ x ∈ c.exceptionTable.toList, covers x pc = false := by
        rw [hhs] at htab
        have : c.exceptionTable.toList = [] := by simpa using htab
        rw [this]
        intro x hx'
        cases hx'
      obtain ⟨t, t1, t2⟩ := x_leave (N0 := N0) (S0 := S0) (k := k) (a := a) (hf := hzz) X' (g := F0 m pc ls rest) rfl rfl rfl hempty hlk hRs' hcell hlocs (Steps.refl _)
      exact ⟨t, hst _ (fun acts => (hs' acts).trans t1), t2⟩
    | cons y ys =>
      simp only [xback, hhs] at hback
      obtain ⟨hp, hhp, hback⟩ := xS_s hback
      rw [← hhs] at hhp
      obtain ⟨⟨hsM, hokM⟩, hexM, -⟩ := hgood
      obtain ⟨r, hr, cellX, x1, x2, x3, -⟩ := (hRs'.2.2.2 a _ hcell).1
      have hkEX : k ∈ EX := by
        by_cases hk : k ∈ EX
        · exact hk
        · exfalso
          have : ∀ (t : List (Nat × Nat × Nat × Nat × Nat)), (∀ y ∈ t, y.2.2.2.2 ∈ EX) → xhd t pc k = none := by
            intro t
            induction t with
            | nil => intro _; rfl
            | cons y t iht =>
              intro hy
              obtain ⟨a1, a2, a3, a4, a5⟩ := y
              have h5 : a5 ≠ k := fun z => hk (z ▸ hy _ List.mem_cons_self)
              have hb5 : Nat.beq a5 k = false := by
                cases hz : Nat.beq a5 k with
                | false => rfl
                | true => exact absurd (Nat.eq_of_beq_eq_true hz) h5
              simp only [xhd, hb5, Bool.and_false, cond_false]
              exact iht (fun y hy' => hy y (List.mem_cons_of_mem _ hy'))
          rw [this _ hexM] at hhp
          cases hhp
      have hKn := hsf.2.2.2.2.1.1 k r hr
      obtain ⟨kC, hkC, -⟩ := hKn.2.2
      simp only [xmok, Bool.and_eq_true] at hokM
      have hall := List.all_eq_true.mp hokM.2
      obtain ⟨vm', wf, hfind⟩ := x_find (s := s) (l := l) (e := e) (m := m) (k0 := D.1 k) (findClass_of_methodNamed hnm) (f := F0 m pc ls rest) rfl (a := a) (cell := cellX) X.admits (fun q hq => by rw [x3] at hq; cases hq) x2 ⟨kC, hkC⟩
        (K := fun j => if j ∈ EX then some (D.1 j) else none) (kx := k) (by simp [hkEX]) (fun j q hj => by
          by_cases hjE : j ∈ EX
          · simp only [hjE, if_true, Option.some.injEq] at hj
            rw [← hj]
            exact (hsf.2.2.2.1 k hkEX).2 j hjE
          · simp [hjE] at hj) c.exceptionTable.toList (xhs M) htab (fun y hy => by
          have h1 := hall y hy
          simp only [Bool.and_eq_true] at h1
          obtain ⟨h1, h2⟩ := h1
          refine ⟨fun z => ?_, ?_⟩
          · rw [z] at h1; exact absurd h1 (by decide)
          · split at h2
            · next C0 T0 N0' hcl =>
              obtain ⟨w, hw, hww⟩ := List.any_eq_true.mp h2
              have hww := of_decide_eq_true hww
              subst hww
              have hKy := hsf.2.2.2.2.1.1 _ _ hcl
              exact ⟨C0, D.1 y.2.2.2.2, fun a' U hU => hsf.1 _ hw a' U hU, hKy.2.1, by simp [hexM y hy]⟩
            · cases h2) ((T'.setTop (F0 m pc ls rest)).pushFrame (.throwing a)) (by rw [Stand.throwing_vm]; exact hWs) (by rw [Stand.throwing_heap]; exact x1) hp hhp
      have hmT : ((T'.setTop (F0 m pc ls rest)).pushFrame (.throwing a)).vm.method? (F0 m pc ls rest).method = some meth := by rw [Stand.throwing_vm]; exact X'.method'
      have hfd : xFinds e ((T'.setTop (F0 m pc ls rest)).pushFrame (.throwing a)) (F0 m pc ls rest) a hp vm' := fun Q E d acts => (W.findHandler_eq hmT X'.code).trans (hfind Q E d acts)
      have X'' := X'.noted wf
      have hb2 : xrun V F G n M (hp, lo, [.ref a]) hzz = some (o, hf) := hback
      obtain ⟨t, t1, t2⟩ := ih M _ hzz hf o hb2 p e R s m args below meth c C' N0 S0 (by omega) (by omega) hRc hRs T'.heap (locs ++ L) ls hRs' hL hlocs (T'.setVm vm') rfl X''
      exact ⟨t, hst _ (fun acts => (hs' acts).trans (x_caught X' rfl hfd t1)), t2⟩
end XSND
end
section
/-! entering a method; copying; throwing -/
theorem xkind_fit {k : Nat} {ty : FieldType} {w : Value} (h1 : xkind k ty = true) (h2 : xfit k w = true) : narrow ty w = w ∧ fits ty w = true := by
  unfold xkind at h1
  split at h1
  · cases w <;> first | exact ⟨rfl, rfl⟩ | exact absurd h2 (by simp [xfit])
  · cases w with
    | int x => rcases of_decide_eq_true h2 with rfl | rfl <;> exact ⟨rfl, rfl⟩
    | _ => exact absurd h2 (by simp [xfit])
  · cases w <;> first | exact ⟨rfl, rfl⟩ | exact absurd h2 (by simp [xfit])
  · cases w <;> first | exact ⟨rfl, rfl⟩ | exact absurd h2 (by simp [xfit])
  · cases h1
section XEN
variable {l : Launch} {cl : List vw_C} {WL : List Cond} {host : String}
variable {p : Program} {e : Env} {R : Room} {s : State} {m : MethodId} {args : Array Value} {below : List Frame} {meth : Method} {c : Code} {T : State} {locs : List Loc} {cells slots : Nat}
theorem xpar_len {Z : xM} {b : Nat} {sig : ClassFile.MethodDescriptor} (h : xpar Z b = true) (hs : parseMethodDescriptor (xnm Z).desc = some sig) : b = sig.parameters.length := by
  have h1 := of_decide_eq_true h
  rw [hs] at h1
  exact (Option.some.inj h1).symm
theorem x_entS {own : String} {bytes : ByteArray} (X : Stand p l e R s m args below meth c T locs cells slots) (hx : p.tables.exec = Jvm.exec) (hb : c.code = bytes) (hown : s.vm.findClass own = some m.cls) (hw : xWd WL s) {Z : xM} (hgz : ∃ hs, xmok WL cl Z hs = true) {p0 k b pc : Nat} (hlink : xlink WL host own p0 k (xnm Z) = true)
    (hst : (Cond.static (xnm Z)) ∈ WL) (hpar : xpar Z b = true) {as rest : List Value} (hlen : as.length = b) {mk : MethodId} (hmk : s.methodNamed? (xnm Z) = some mk) {ls : Array Slot} (hd : decode bytes pc = .ok (.invokestatic k, 3)) :
    ∃ vm₁, s.WarmedH vm₁ ∧ Stand p l e R s m args below meth c (T.setVm vm₁) locs cells slots ∧
      ∀ target, (∀ acts, Steps p.tables e below (doInvoke e ((T.setVm vm₁).setTop (F0 m pc ls rest)) acts mk as.toArray).1 target) → Steps p.tables e below (T.setTop (F0 m pc ls (as.reverse ++ rest))) target := by
  obtain ⟨hs, hokZ⟩ := hgz
  obtain ⟨mk', methZ, cZ, q1, q2, q3, q4, q5, q6, q7, q8, q9, ⟨kZ, qk, qi⟩, q10, q11⟩ := x_mfacts (s := s) hokZ hw
  cases hmk.symm.trans q1
  have hstatic : methZ.isStatic = true := Cond.static_spec q1 q2 (hw _ hst args s (State.WarmedH.refl s))
  have hl' : as.length = methZ.sig.parameters.length := hlen.trans (xpar_len hpar q9)
  simp only [xlink, Bool.or_eq_true] at hlink
  rcases hlink with hlk | hlk
  · obtain ⟨vm', X', st⟩ := X.invokestatic hx hown (hw _ (xin_mem hlk) args s (State.WarmedH.refl s)) q1 q2 hstatic qk qi q11 (g := F0 m pc ls (as.reverse ++ rest)) rfl (argsL := as) (rest := rest) hl' rfl (by rw [hb]; exact hd)
    exact ⟨vm', X'.warmed, X', st⟩
  · obtain ⟨vm', X', st⟩ := X.invokestaticNest hx hown (hw _ (xin_mem hlk) args s (State.WarmedH.refl s)) q1 q2 hstatic qk qi q11 (g := F0 m pc ls (as.reverse ++ rest)) rfl (argsL := as) (rest := rest) hl' rfl (by rw [hb]; exact hd)
    exact ⟨vm', X'.warmed, X', st⟩
theorem x_entV {own : String} {bytes : ByteArray} (X : Stand p l e R s m args below meth c T locs cells slots) (hx : p.tables.exec = Jvm.exec) (hb : c.code = bytes) (hown : s.vm.findClass own = some m.cls) (hw : xWd WL s) {Z : xM} (hgz : ∃ hs, xmok WL cl Z hs = true) {p0 k b pc : Nat} (hlink : xlink WL host own p0 k (xnm Z) = true)
    (hin : (Cond.instanceMethod (xnm Z)) ∈ WL) (hsel : (Cond.selects (xnm Z).cls (xnm Z) (xnm Z)) ∈ WL) (hpar : xpar Z b = true) {o : Nat} {as rest : List Value} (hlen : as.length = b) {mk : MethodId} (hmk : s.methodNamed? (xnm Z) = some mk) {ls : Array Slot}
    {cellB : Cell} (hcell : T.heap[o]? = some cellB) (hobj : cellB.vm.isStatics = false) (hcls : s.vm.findClass (xnm Z).cls = some cellB.cls) (hd : decode bytes pc = .ok (.invokevirtual k, 3)) :
    ∃ vm₁, s.WarmedH vm₁ ∧ Stand p l e R s m args below meth c (T.setVm vm₁) locs cells slots ∧
      ∀ target, (∀ acts, Steps p.tables e below (doInvoke e ((T.setVm vm₁).setTop (F0 m pc ls rest)) acts mk (Value.ref o :: as).toArray).1 target) → Steps p.tables e below (T.setTop (F0 m pc ls ((Value.ref o :: as).reverse ++ rest))) target := by
  obtain ⟨hs, hokZ⟩ := hgz
  obtain ⟨mk', methZ, cZ, q1, q2, q3, q4, q5, q6, q7, q8, q9, ⟨kZ, qk, qi⟩, q10, q11⟩ := x_mfacts (s := s) hokZ hw
  cases hmk.symm.trans q1
  obtain ⟨mk2, meth2, i1, i2, i3, i4⟩ := Cond.instanceMethod_spec (hw _ hin args s (State.WarmedH.refl s))
  cases q1.symm.trans i1
  cases q2.symm.trans i2
  have hl' : as.length = methZ.sig.parameters.length := hlen.trans (xpar_len hpar q9)
  obtain ⟨c2, r2, m2, z1, z2, z3, z4, kP, hkP, hkPi⟩ := Cond.selects_spec (hw _ hsel args s (State.WarmedH.refl s))
  cases hcls.symm.trans z1
  cases (State.methodFound?_of_named q1 q11).symm.trans z2
  cases q1.symm.trans z3
  have hselP : selectMethod e.platform s.vm cellB.cls mk = .method mk := by rw [Launch.admits_selectMethod X.admits]; exact z4
  have hstk : (F0 m pc ls ((Value.ref o :: as).reverse ++ rest)).stack = as.reverse ++ .ref o :: rest := by show (Value.ref o :: as).reverse ++ rest = _; simp
  simp only [xlink, Bool.or_eq_true] at hlink
  rcases hlink with hlk | hlk
  · obtain ⟨vm', X', st⟩ := X.invokevirtual hx hown (hw _ (xin_mem hlk) args s (State.WarmedH.refl s)) q1 q2 i3 hkP hkPi q11 (a := o) (cell := cellB) hcell (fun z h => by rw [h] at hobj; cases hobj) hselP q2 i4 hkP hkPi (g := F0 m pc ls ((Value.ref o :: as).reverse ++ rest)) rfl (argsL := as) (rest := rest) hl' hstk (by rw [hb]; exact hd)
    exact ⟨vm', X'.warmed, X', st⟩
  · obtain ⟨vm', X', st⟩ := X.invokevirtualNest hx hown (hw _ (xin_mem hlk) args s (State.WarmedH.refl s)) q1 q2 i3 hkP hkPi q11 (a := o) (cell := cellB) hcell (fun z h => by rw [h] at hobj; cases hobj) hselP q2 i4 hkP hkPi (g := F0 m pc ls ((Value.ref o :: as).reverse ++ rest)) rfl (argsL := as) (rest := rest) hl' hstk (by rw [hb]; exact hd)
    exact ⟨vm', X'.warmed, X', st⟩
theorem x_entI {own : String} {bytes : ByteArray} (X : Stand p l e R s m args below meth c T locs cells slots) (hx : p.tables.exec = Jvm.exec) (hb : c.code = bytes) (hown : s.vm.findClass own = some m.cls) (hw : xWd WL s) {Z : xM} (hgz : ∃ hs, xmok WL cl Z hs = true) {p0 k b pc : Nat} (hlink : xlink WL host own p0 k (xnm Z) = true)
    (hin : (Cond.instanceMethod (xnm Z)) ∈ WL) (hname : (xnm Z).name = "<init>") (hhs : xhs Z = []) (hrt : xrt Z = none) (hpar : xpar Z b = true) {o : Nat} {as rest : List Value} (hlen : as.length = b) {mk : MethodId} (hmk : s.methodNamed? (xnm Z) = some mk) {ls : Array Slot} (hd : decode bytes pc = .ok (.invokespecial k, 3)) :
    ∃ vm₁, s.WarmedH vm₁ ∧ Stand p l e R s m args below meth c (T.setVm vm₁) locs cells slots ∧
      ∀ target, (∀ acts, Steps p.tables e below (doInvoke e ((T.setVm vm₁).setTop (F0 m pc ls rest)) acts mk (Value.ref o :: as).toArray).1 target) → Steps p.tables e below (T.setTop (F0 m pc ls ((Value.ref o :: as).reverse ++ rest))) target := by
  obtain ⟨hs, hokZ⟩ := hgz
  obtain ⟨mk', methZ, cZ, q1, q2, q3, q4, q5, q6, q7, q8, q9, ⟨kZ, qk, qi⟩, q10, q11⟩ := x_mfacts (s := s) hokZ hw
  cases hmk.symm.trans q1
  have hcode : (Cond.code (xnm Z) (xby Z) (xml Z) none) ∈ WL := by
    simp only [xmok, Bool.and_eq_true, hhs, hrt] at hokZ
    exact xin_mem hokZ.1.1.2
  have hpl : e.platform.magicAccessors = ({} : Platform).magicAccessors := by rw [X.admits.platform]
  have hstk : (F0 m pc ls ((Value.ref o :: as).reverse ++ rest)).stack = as.reverse ++ .ref o :: rest := by show (Value.ref o :: as).reverse ++ rest = _; simp
  have hl' : ∀ sig, parseMethodDescriptor (xnm Z).desc = some sig → as.length = sig.parameters.length := fun sig h => hlen.trans (xpar_len hpar h)
  simp only [xlink, Bool.or_eq_true] at hlink
  rcases hlink with hlk | hlk
  · obtain ⟨tm, methM, cM, kP, vm₁, hnamed, hmethM, hcodeM, -, hlocalsM, -, hkP, -, hW₁, hstep₁⟩ := Steps.initColdArgs (e := e) X.here hx X.warmed hpl hown hname q11 (hw _ (xin_mem hlk) args s (State.WarmedH.refl s)) (hw _ hin args s (State.WarmedH.refl s)) (hw _ hcode args s (State.WarmedH.refl s)) (f := F0 m pc ls ((Value.ref o :: as).reverse ++ rest)) rfl hl' hstk (by rw [hb]; exact hd)
    cases q1.symm.trans hnamed
    exact ⟨vm₁, hW₁, X.noted hW₁, hstep₁⟩
  · obtain ⟨tm, methM, cM, kP, vm₁, hnamed, hmethM, hcodeM, -, hlocalsM, -, hkP, -, hW₁, hstep₁⟩ := Steps.initColdArgsNest (e := e) X.here hx X.warmed hpl hown hname q11 (hw _ (xin_mem hlk) args s (State.WarmedH.refl s)) (hw _ hin args s (State.WarmedH.refl s)) (hw _ hcode args s (State.WarmedH.refl s)) (f := F0 m pc ls ((Value.ref o :: as).reverse ++ rest)) rfl hl' hstk (by rw [hb]; exact hd)
    cases q1.symm.trans hnamed
    exact ⟨vm₁, hW₁, X.noted hW₁, hstep₁⟩
end XEN
section XCP
variable {p : Program} {l : Launch} {e : Env} {R : Room} {s : State} {m : MethodId} {args : Array Value} {below : List Frame} {meth : Method} {c : Code} {H : Heap} {locs : List Loc} {cells slots : Nat} {Q : State → Prop}
variable {cc : ByteArray} {pc : Nat} {ls : Array Slot} {rest : List Value} {D : va_G} {cl : List vw_C} {H0 : Heap} {h : xH}
theorem xclamp {z : Int32} (hz : ¬ z < 0) : z.toInt = (z.toNatClampNeg : Int) := by
  have hz0 : (0 : Int) ≤ z.toInt := by
    have := Int32.not_lt.mp hz
    simpa using Int32.le_iff_toInt_le.mp this
  show z.toInt = ((z.toInt.toNat : Nat) : Int)
  omega
theorem xw_copy (hx : p.tables.exec = Jvm.exec) (hb : c.code = cc) (hml : c.maxLocals = ls.size) {own : String} {index : Nat} (hown : s.vm.findClass own = some m.cls) (hlink : (Cond.methodLink own index arraycopyName).before args s = true) (hnat : (Cond.native arraycopyName).before args s = true) (hstat : (Cond.static arraycopyName).before args s = true) (hini : (Cond.initialized "java/lang/System").before args s = true)
    (hR : xHR D cl H0 s h H) (hl : ∀ q ∈ locs, H0.size ≤ q.base) {a0 a n0 n1 : Nat} {f g : Nat → Int32} (ha0 : h.1 a0 = some (.inl (0, n0, .inl f))) (ha1 : h.1 a = some (.inl (0, n1, .inl g))) {sp dp n : Int32} (h1 : ¬ sp < 0) (h2 : ¬ dp < 0) (h3 : ¬ n < 0) (h4 : sp.toNatClampNeg + n.toNatClampNeg ≤ n0) (h5 : dp.toNatClampNeg + n.toNatClampNeg ≤ n1)
    (hframes : 1 ≤ R.frames) (hlocals : (rest.map fun v => v.category).sum + (nativeFrameWords "java/lang/System" "arraycopy" 5 + 11) ≤ R.locals) (hdg : decode cc pc = .ok (.invokestatic index, 3))
    (kk : ∀ (H1 : Heap) (locs1 : List Loc), xHR D cl H0 s (xset h a (xA 0 n1 (xint (va_cpy f g sp.toNatClampNeg dp.toNatClampNeg n.toNatClampNeg)))) H1 → (∀ q ∈ locs1, H0.size ≤ q.base) → W p l e R s m args below meth c H1 locs1 cells slots Q (F0 m (pc + 3) ls rest)) :
    W p l e R s m args below meth c H locs cells slots Q (F0 m pc ls (.int n :: .int dp :: .ref a :: .int sp :: .ref a0 :: rest)) := by
  intro T hT X
  rcases (hR.2.2.2 a0 _ ha0).1 with ⟨z0, -⟩ | ⟨-, c0, e0, r0, w0⟩
  · exact absurd (show (0 : Nat) = 3 from z0) (by decide)
  rcases (hR.2.2.2 a _ ha1).1 with ⟨z0, -⟩ | ⟨-, c1, e1, r1, w1⟩
  · exact absurd (show (0 : Nat) = 3 from z0) (by decide)
  have e0 : H[a0]? = some (arrV c0 n0 (fun j => .int (f j))) := e0
  have e1 : H[a]? = some (arrV c1 n1 (fun j => .int (g j))) := e1
  obtain ⟨-, k0, hk0, cm0, hkk0⟩ := r0 n0 (fun j => .int (f j))
  obtain ⟨-, k1, hk1, cm1, hkk1⟩ := r1 n1 (fun j => .int (g j))
  obtain ⟨vm', X', step⟩ := X.arraycopy hx hown hlink hnat hstat hini (src := a0) (dst := a) (cs := arrV c0 n0 (fun j => .int (f j))) (cd := arrV c1 n1 (fun j => .int (g j))) (srcPos := sp) (destPos := dp) (n := n) (by rw [hT]; exact e0) (by rw [hT]; exact e1)
    (fun _ z => by cases z) (fun _ z => by cases z) (fun z => by cases z) (fun z => by cases z) hk0 hk1 hkk0 hkk1 (by rfl) h1 h2 h3
    (by rw [xclamp h1, xclamp h3, arrV_size]; omega) (by rw [xclamp h2, xclamp h3, arrV_size]; omega)
    (fun vm₁ _ i hi => by
      have q : (arrV c0 n0 (fun j => Value.int (f j))).slots.getD (sp.toNatClampNeg + i) .null = .int (f (sp.toNatClampNeg + i)) := by
        rw [Array.getD_eq_getD_getElem?, arrV_read _ _ (by omega)]
        rfl
      rw [q]
      exact ⟨rfl, trivial⟩)
    (g := F0 m pc ls (.int n :: .int dp :: .ref a :: .int sp :: .ref a0 :: rest)) rfl (by rw [hml]) (rest := rest) rfl (by rw [hb]; exact hdg) hframes (by show 2 * 0 + _ + _ ≤ _; omega)
  have eq1 : copied (arrV c0 n0 (fun j => .int (f j))) (arrV c1 n1 (fun j => .int (g j))) sp dp n = arrV c1 n1 (fun j => .int (va_cpy f g sp.toNatClampNeg dp.toNatClampNeg n.toNatClampNeg j)) := va_copied (fun z => .int z) c0 c1 f g h4
  rw [eq1] at X' step
  have hlt : a < T.heap.size := by rw [hT]; exact (Array.getElem?_eq_some_iff.mp e1).1
  have old := hR.old ha1 (xro3 (by decide))
  obtain ⟨t, t1, t2⟩ := kk ((T.setVm vm').setCell a (arrV c1 n1 (fun j => .int (va_cpy f g sp.toNatClampNeg dp.toNatClampNeg n.toNatClampNeg j)))).heap _
    (hR.set ha1 (xro3 (by decide)) (Or.inr ⟨show (0 : Nat) ≠ 3 by decide, c1, heapAt_setCell_self (s := T.setVm vm') _ hlt, r1, w1⟩) (by rw [size_setCell]; show T.heap.size = _; rw [hT]) (fun q hq => by rw [heapAt_setCell_ne _ (Ne.symm hq)]; show T.heap[q]? = _; rw [hT]))
    (fun q hq => by
      rcases List.mem_append.mp hq with z | z
      · exact hl q z
      · obtain ⟨y, -, hy⟩ := List.mem_map.mp z
        rw [← hy]
        exact old) _ rfl X'
  exact ⟨t, step t t1, t2⟩
/-- an array of arrays -/
theorem xw_grid (hx : p.tables.exec = Jvm.exec) (hb : c.code = cc) (hR : xHR D cl H0 s h H) (hl : ∀ q ∈ locs, H0.size ≤ q.base) {own : String} {idx : Nat} (hown : s.vm.findClass own = some m.cls) (hclink : (Cond.classLink own idx "[[I").before args s = true) (hover : (Cond.arrayOver (.array .int)).before args s = true) (harr : (Cond.arrayClass .int).before args s = true)
    {n k : Int32} (hn : ¬ n < 0) (hk : ¬ k < 0) (hn' : n.toNatClampNeg ≤ 1000) (hk' : k.toNatClampNeg ≤ 1000000) (hcells : cells + (1 + n.toNatClampNeg) ≤ R.cells) (hslots : slots + (n.toNatClampNeg + n.toNatClampNeg * k.toNatClampNeg) ≤ R.slots) (hd : decode cc pc = .ok (.multianewarray idx 2, 4))
    (kk : ∀ (H1 : Heap) (locs1 : List Loc), xHR D cl H0 s (xgrid h 4 0 n.toNatClampNeg k.toNatClampNeg) H1 → (∀ q ∈ locs1, H0.size ≤ q.base) → W p l e R s m args below meth c H1 locs1 (cells + (1 + n.toNatClampNeg)) (slots + (n.toNatClampNeg + n.toNatClampNeg * k.toNatClampNeg)) Q (F0 m (pc + 4) ls (.ref h.2.1 :: rest))) :
    W p l e R s m args below meth c H locs cells slots Q (F0 m pc ls (.int k :: .int n :: rest)) := by
  sorry
end XCP
/-- a making and a throw -/
def xThr (l : Launch) (D : va_G) (cl : List vw_C) (H0 : Heap) (V : Nat → Value) (G : Nat → xM) (WL HL : List Cond) (SL : List (String × Nat × String)) (NM : List String) (EX : List Nat) (ty0 : Nat → Nat → FieldType) (sf : String × String × String) (host : String) (nG : Nat) : Prop :=
  ∀ (M : xM) (p : Program) (e : Env) (R : Room) (s : State) (m : MethodId) (args : Array Value) (below : List Frame) (meth : Method) (c : Code), xCx D cl H0 WL HL SL NM EX V ty0 sf host nG G M p R s m meth c → ∀ (pc k a b nx : Nat) (hs : List Nat) (h : xH) (N0 S0 : Nat),
    xtok WL HL cl SL NM M pc k a b hs = true → N0 ≤ h.2.1 → S0 ≤ h.2.2 → (xnew h (xO' a []) b).2.1 - N0 ≤ R.cells → (xnew h (xO' a []) b).2.2 - S0 ≤ R.slots → ∀ (H : Heap) (locs : List Loc) (ls : Array Slot) {lo : List (Option Value)}, xHR D cl H0 s h H → xl ls (xml M) lo → (∀ q ∈ locs, H0.size ≤ q.base) →
      W p l e R s m args below meth c H locs (h.2.1 - N0) (h.2.2 - S0) (xQ D cl H0 s below (.inr (a, h.2.1)) (xnew h (xO' a []) b) N0 S0) (F0 m pc ls [])
end
section
/-! soundness: the step -/
set_option maxHeartbeats 4000000 in
set_option maxRecDepth 100000 in
theorem x_step {l : Launch} {D : va_G} {cl : List vw_C} {H0 : Heap} {V : Nat → Value} {F : Nat → List Value} {G : Nat → xM} {WL HL : List Cond} {SL : List (String × Nat × String)} {NM : List String} {EX : List Nat} {ty0 : Nat → Nat → FieldType} {sf : String × String × String} {host : String} {nG : Nat}
    (hU : ∀ (ci : Nat) (C : String) (T : u_T) (N : Nat), cl[ci]? = some (C, T, N) → (∀ w ∈ u_ws C T N, w ∈ WL) ∧ (∀ k, k < N → parseFieldDescriptor (T k).2.2.1 = some (ty0 ci k)) ∧ (∀ a, a < N → ∀ b, b < N → a ≠ b → (T a).2.1 ≠ (T b).2.1) ∧ (∀ j, j < N → defaultValue (ty0 ci j) = vp_V (F ci) j))
    (hG : ∀ z, z < nG → xgood WL HL cl SL NM EX ty0 sf host nG G (G z)) (hthr : xThr l D cl H0 V G WL HL SL NM EX ty0 sf host nG)
    {fu : Nat} (ih : xSnd l D cl H0 V F G WL HL SL NM EX ty0 sf host nG fu) : xSnd l D cl H0 V F G WL HL SL NM EX ty0 sf host nG (fu + 1) := by
  intro M f h hf o hrun p e R s m args below meth c C N0 S0 hN hS hRc hRs H locs ls hR hL hl
  obtain ⟨hx, hb, hml, hrt, hlk, hnm, hmeth, htab, hsf, hfr, hlo, hgood⟩ := id C
  obtain ⟨pc, lo, st⟩ := f
  replace hL : xl ls (xml M) lo := hL
  show W p l e R s m args below meth c H locs (h.2.1 - N0) (h.2.2 - S0) (xQ D cl H0 s below o hf N0 S0) (F0 m pc ls st)
  replace hrun : xS (xcd M pc) (fun q => xop V F G (xrun V F G fu) M (pc, lo, st) h q.1 q.2.1 q.2.2.1 q.2.2.2.1 q.2.2.2.2.1) = some (o, hf) := hrun
  have hts : ∀ w ∈ WL, w.before args s = true := fun w hw => hsf.1 w hw args s (State.WarmedH.refl s)
  have hown : s.vm.findClass (xnm M).cls = some m.cls := findClass_of_methodNamed hnm
  have hK := hsf.2.2.2.2.1
  have go : ∀ (f' : xF) (h' : xH), xrun V F G fu M f' h' = some (o, hf) → N0 ≤ h'.2.1 → S0 ≤ h'.2.2 → ∀ (H' : Heap) (locs' : List Loc) (ls' : Array Slot), xHR D cl H0 s h' H' → xl ls' (xml M) f'.2.1 → (∀ q ∈ locs', H0.size ≤ q.base) →
      W p l e R s m args below meth c H' locs' (h'.2.1 - N0) (h'.2.2 - S0) (xQ D cl H0 s below o hf N0 S0) (F0 m f'.1 ls' f'.2.2) :=
    fun f' h' hr a b H' locs' ls' c1 c2 c3 => ih M f' h' hf o hr p e R s m args below meth c C N0 S0 a b hRc hRs H' locs' ls' c1 c2 c3
  have sm : ∀ (pc' : Nat) (lo' : List (Option Value)) (st' : List Value), xrun V F G fu M (pc', lo', st') h = some (o, hf) → ∀ (ls' : Array Slot), xl ls' (xml M) lo' →
      W p l e R s m args below meth c H locs (h.2.1 - N0) (h.2.2 - S0) (xQ D cl H0 s below o hf N0 S0) (F0 m pc' ls' st') := fun pc' lo' st' hr ls' hl' => go (pc', lo', st') h hr hN hS H locs ls' hR hl' hl
  obtain ⟨ent, hcd, hrun1⟩ := xS_s hrun
  clear hrun
  have hrun := hrun1
  clear hrun1
  have hok := hgood.2.2 pc ent hcd
  obtain ⟨i, nx, a, b, v, hs⟩ := ent
  dsimp only at hrun
  cases i with
  | iconst k =>
    replace hrun : (xrun V F G fu M (nx, lo, v :: st) h) = some (o, hf) := hrun
    replace hok : (xdec M pc nx (.iconst k) 1 && decide (v = .int (Int32.ofInt k))) = true := hok
    simp only [Bool.and_eq_true] at hok
    obtain ⟨hok, hok2⟩ := hok
    obtain ⟨hd, rfl⟩ := xdec_spec hok
    have hok2 := of_decide_eq_true hok2
    subst hok2
    exact lv_iconst hx hb hd rfl (sm _ _ _ hrun ls hL)
  | bipush k =>
    replace hrun : (xrun V F G fu M (nx, lo, v :: st) h) = some (o, hf) := hrun
    replace hok : (xdec M pc nx (.bipush k) 2 && decide (v = .int ((Int8.ofInt k).toInt32))) = true := hok
    simp only [Bool.and_eq_true] at hok
    obtain ⟨hok, hok2⟩ := hok
    obtain ⟨hd, rfl⟩ := xdec_spec hok
    have hok2 := of_decide_eq_true hok2
    subst hok2
    exact lv_bipush hx hb hd rfl (sm _ _ _ hrun ls hL)
  | sipush k =>
    replace hrun : (xrun V F G fu M (nx, lo, v :: st) h) = some (o, hf) := hrun
    replace hok : (xdec M pc nx (.sipush k) 3 && decide (v = .int ((Int16.ofInt k).toInt32))) = true := hok
    simp only [Bool.and_eq_true] at hok
    obtain ⟨hok, hok2⟩ := hok
    obtain ⟨hd, rfl⟩ := xdec_spec hok
    have hok2 := of_decide_eq_true hok2
    subst hok2
    exact lv_sipush hx hb hd rfl (sm _ _ _ hrun ls hL)
  | lconst k =>
    replace hrun : (xrun V F G fu M (nx, lo, v :: st) h) = some (o, hf) := hrun
    replace hok : (xdec M pc nx (.lconst k) 1 && decide (v = .long (Int64.ofNat k.val))) = true := hok
    simp only [Bool.and_eq_true] at hok
    obtain ⟨hok, hok2⟩ := hok
    obtain ⟨hd, rfl⟩ := xdec_spec hok
    have hok2 := of_decide_eq_true hok2
    subst hok2
    exact lv_lconst hx hb hd rfl (sm _ _ _ hrun ls hL)
  | ldc k =>
    replace hrun : (xrun V F G fu M (nx, lo, v :: st) h) = some (o, hf) := hrun
    replace hok : (xdec M pc nx (.ldc k) 2 && (match (generalizing := false) v with | .int x => xin WL (hs.getD 0 0) (.constant (xnm M).cls k x) | _ => false)) = true := hok
    simp only [Bool.and_eq_true] at hok
    obtain ⟨hok, hok2⟩ := hok
    obtain ⟨hd, rfl⟩ := xdec_spec hok
    split at hok2
    · next x =>
      exact W.ldc hx hb hown (hts _ (xin_mem hok2)) rfl hd (sm _ _ _ hrun ls hL)
    · cases hok2
  | ldc_w k =>
    replace hrun : (xrun V F G fu M (nx, lo, v :: st) h) = some (o, hf) := hrun
    replace hok : (xdec M pc nx (.ldc_w k) 3 && (match (generalizing := false) v with | .int x => xin WL (hs.getD 0 0) (.constant (xnm M).cls k x) | _ => false)) = true := hok
    simp only [Bool.and_eq_true] at hok
    obtain ⟨hok, hok2⟩ := hok
    obtain ⟨hd, rfl⟩ := xdec_spec hok
    split at hok2
    · next x =>
      exact lv_ldcw hx hb hown (hts _ (xin_mem hok2)) hd (sm _ _ _ hrun ls hL)
    · cases hok2
  | ldc2_w k =>
    replace hrun : (xrun V F G fu M (nx, lo, v :: st) h) = some (o, hf) := hrun
    replace hok : (xdec M pc nx (.ldc2_w k) 3 && (match (generalizing := false) v with | .long x => xin WL (hs.getD 0 0) (.constantLong (xnm M).cls k x) | _ => false)) = true := hok
    simp only [Bool.and_eq_true] at hok
    obtain ⟨hok, hok2⟩ := hok
    obtain ⟨hd, rfl⟩ := xdec_spec hok
    split at hok2
    · next x =>
      exact W.ldc2 hx hb hown (hts _ (xin_mem hok2)) rfl hd (sm _ _ _ hrun ls hL)
    · cases hok2
  | getstatic k =>
    replace hrun : (xrun V F G fu M (nx, lo, V a :: st) h) = some (o, hf) := hrun
    replace hok : (xdec M pc nx (.getstatic k) 3 && Nat.beq a 0 && xin WL (hs.getD 0 0) (.fieldLink (xnm M).cls k sf.1 sf.2.1 sf.2.2)) = true := hok
    simp only [Bool.and_eq_true] at hok
    obtain ⟨⟨hok, hok2⟩, hok3⟩ := hok
    obtain ⟨hd, rfl⟩ := xdec_spec hok
    have hok2 := Nat.eq_of_beq_eq_true hok2
    subst hok2
    obtain ⟨cf, kf, fi, fl, za, zc, z1, z2, z3, z4, z5, z6, z7, z8⟩ := hsf.2.2.2.2.2
    have hza : H[za]? = some zc := by rw [hR.2.2.1 za (by omega)]; exact z5
    exact W.gets hx hb hown (hts _ (xin_mem hok3)) z1 z2 z3 z4 hza (fun q => by rw [q] at z6; cases z6) z7 rfl hd (sm _ _ _ hrun ls hL)
  | iload k =>
    replace hrun : (xvI (xget lo a) fun x => xrun V F G fu M (nx, lo, .int x :: st) h) = some (o, hf) := hrun
    replace hok : (xdec M pc nx (.iload k) 2 && Nat.beq a k) = true := hok
    simp only [Bool.and_eq_true] at hok
    obtain ⟨hok, hok2⟩ := hok
    obtain ⟨hd, rfl⟩ := xdec_spec hok
    have hok2 := Nat.eq_of_beq_eq_true hok2
    obtain ⟨x, hv, hrun1⟩ := xvI_s hrun
    clear hrun
    have hrun := hrun1
    clear hrun1
    subst hok2
    exact lv_iload hx hb hd (hL.at hv) (sm _ _ _ hrun ls hL)
  | iload_n k =>
    replace hrun : (xvI (xget lo a) fun x => xrun V F G fu M (nx, lo, .int x :: st) h) = some (o, hf) := hrun
    replace hok : (xdec M pc nx (.iload_n k) 1 && Nat.beq a k.val) = true := hok
    simp only [Bool.and_eq_true] at hok
    obtain ⟨hok, hok2⟩ := hok
    obtain ⟨hd, rfl⟩ := xdec_spec hok
    have hok2 := Nat.eq_of_beq_eq_true hok2
    obtain ⟨x, hv, hrun1⟩ := xvI_s hrun
    clear hrun
    have hrun := hrun1
    clear hrun1
    exact lv_iload_n hx hb hd hok2.symm (hL.at hv) (sm _ _ _ hrun ls hL)
  | lload k =>
    replace hrun : (xvL (xget lo a) fun x => xrun V F G fu M (nx, lo, .long x :: st) h) = some (o, hf) := hrun
    replace hok : (xdec M pc nx (.lload k) 2 && Nat.beq a k) = true := hok
    simp only [Bool.and_eq_true] at hok
    obtain ⟨hok, hok2⟩ := hok
    obtain ⟨hd, rfl⟩ := xdec_spec hok
    have hok2 := Nat.eq_of_beq_eq_true hok2
    obtain ⟨x, hv, hrun1⟩ := xvL_s hrun
    clear hrun
    have hrun := hrun1
    clear hrun1
    subst hok2
    exact lv_lload hx hb hd (hL.at hv) (sm _ _ _ hrun ls hL)
  | lload_n k =>
    replace hrun : (xvL (xget lo a) fun x => xrun V F G fu M (nx, lo, .long x :: st) h) = some (o, hf) := hrun
    replace hok : (xdec M pc nx (.lload_n k) 1 && Nat.beq a k.val) = true := hok
    simp only [Bool.and_eq_true] at hok
    obtain ⟨hok, hok2⟩ := hok
    obtain ⟨hd, rfl⟩ := xdec_spec hok
    have hok2 := Nat.eq_of_beq_eq_true hok2
    obtain ⟨x, hv, hrun1⟩ := xvL_s hrun
    clear hrun
    have hrun := hrun1
    clear hrun1
    exact lv_lload_n hx hb hd hok2.symm (hL.at hv) (sm _ _ _ hrun ls hL)
  | aload k =>
    replace hrun : (xvA (xget lo a) fun x => xrun V F G fu M (nx, lo, .ref x :: st) h) = some (o, hf) := hrun
    replace hok : (xdec M pc nx (.aload k) 2 && Nat.beq a k) = true := hok
    simp only [Bool.and_eq_true] at hok
    obtain ⟨hok, hok2⟩ := hok
    obtain ⟨hd, rfl⟩ := xdec_spec hok
    have hok2 := Nat.eq_of_beq_eq_true hok2
    obtain ⟨x, hv, hrun1⟩ := xvA_s hrun
    clear hrun
    have hrun := hrun1
    clear hrun1
    subst hok2
    exact lv_aload hx hb hd (hL.at hv) (sm _ _ _ hrun ls hL)
  | aload_n k =>
    replace hrun : (xvA (xget lo a) fun x => xrun V F G fu M (nx, lo, .ref x :: st) h) = some (o, hf) := hrun
    replace hok : (xdec M pc nx (.aload_n k) 1 && Nat.beq a k.val) = true := hok
    simp only [Bool.and_eq_true] at hok
    obtain ⟨hok, hok2⟩ := hok
    obtain ⟨hd, rfl⟩ := xdec_spec hok
    have hok2 := Nat.eq_of_beq_eq_true hok2
    obtain ⟨x, hv, hrun1⟩ := xvA_s hrun
    clear hrun
    have hrun := hrun1
    clear hrun1
    exact lv_aload_n hx hb hd hok2.symm (hL.at hv) (sm _ _ _ hrun ls hL)
  | istore k =>
    replace hrun : (xI1 st fun x st => xS (xst1 (.int x) a lo) fun l => xrun V F G fu M (nx, l, st) h) = some (o, hf) := hrun
    replace hok : (xdec M pc nx (.istore k) 2 && Nat.beq a k) = true := hok
    simp only [Bool.and_eq_true] at hok
    obtain ⟨hok, hok2⟩ := hok
    obtain ⟨hd, rfl⟩ := xdec_spec hok
    have hok2 := Nat.eq_of_beq_eq_true hok2
    obtain ⟨x, st, rfl, hrun1⟩ := xI1_s hrun
    clear hrun
    have hrun := hrun1
    clear hrun1
    obtain ⟨lo', hst, hrun1⟩ := xS_s hrun
    clear hrun
    have hrun := hrun1
    clear hrun1
    have hlt := (xst1_spec _ _ _ _ hst).1
    rw [hL.2.1] at hlt
    subst hok2
    exact lv_istore hx hb hd hL.has hlt rfl (fun ls' h' => sm _ _ _ hrun ls' (hL.st1 hst h'))
  | istore_n k =>
    replace hrun : (xI1 st fun x st => xS (xst1 (.int x) a lo) fun l => xrun V F G fu M (nx, l, st) h) = some (o, hf) := hrun
    replace hok : (xdec M pc nx (.istore_n k) 1 && Nat.beq a k.val) = true := hok
    simp only [Bool.and_eq_true] at hok
    obtain ⟨hok, hok2⟩ := hok
    obtain ⟨hd, rfl⟩ := xdec_spec hok
    have hok2 := Nat.eq_of_beq_eq_true hok2
    obtain ⟨x, st, rfl, hrun1⟩ := xI1_s hrun
    clear hrun
    have hrun := hrun1
    clear hrun1
    obtain ⟨lo', hst, hrun1⟩ := xS_s hrun
    clear hrun
    have hrun := hrun1
    clear hrun1
    have hlt := (xst1_spec _ _ _ _ hst).1
    rw [hL.2.1] at hlt
    exact lv_istore_n hx hb hd hok2.symm hL.has hlt rfl (fun ls' h' => sm _ _ _ hrun ls' (hL.st1 hst h'))
  | astore k =>
    replace hrun : (xA1 st fun x st => xS (xst1 (.ref x) a lo) fun l => xrun V F G fu M (nx, l, st) h) = some (o, hf) := hrun
    replace hok : (xdec M pc nx (.astore k) 2 && Nat.beq a k) = true := hok
    simp only [Bool.and_eq_true] at hok
    obtain ⟨hok, hok2⟩ := hok
    obtain ⟨hd, rfl⟩ := xdec_spec hok
    have hok2 := Nat.eq_of_beq_eq_true hok2
    obtain ⟨x, st, rfl, hrun1⟩ := xA1_s hrun
    clear hrun
    have hrun := hrun1
    clear hrun1
    obtain ⟨lo', hst, hrun1⟩ := xS_s hrun
    clear hrun
    have hrun := hrun1
    clear hrun1
    have hlt := (xst1_spec _ _ _ _ hst).1
    rw [hL.2.1] at hlt
    subst hok2
    exact lv_astore hx hb hd hL.has hlt rfl (fun ls' h' => sm _ _ _ hrun ls' (hL.st1 hst h'))
  | astore_n k =>
    replace hrun : (xA1 st fun x st => xS (xst1 (.ref x) a lo) fun l => xrun V F G fu M (nx, l, st) h) = some (o, hf) := hrun
    replace hok : (xdec M pc nx (.astore_n k) 1 && Nat.beq a k.val) = true := hok
    simp only [Bool.and_eq_true] at hok
    obtain ⟨hok, hok2⟩ := hok
    obtain ⟨hd, rfl⟩ := xdec_spec hok
    have hok2 := Nat.eq_of_beq_eq_true hok2
    obtain ⟨x, st, rfl, hrun1⟩ := xA1_s hrun
    clear hrun
    have hrun := hrun1
    clear hrun1
    obtain ⟨lo', hst, hrun1⟩ := xS_s hrun
    clear hrun
    have hrun := hrun1
    clear hrun1
    have hlt := (xst1_spec _ _ _ _ hst).1
    rw [hL.2.1] at hlt
    exact lv_astore_n hx hb hd hok2.symm hL.has hlt rfl (fun ls' h' => sm _ _ _ hrun ls' (hL.st1 hst h'))
  | lstore k =>
    replace hrun : (xL1 st fun x st => xS (xst2 (.long x) a lo) fun l => xrun V F G fu M (nx, l, st) h) = some (o, hf) := hrun
    replace hok : (xdec M pc nx (.lstore k) 2 && Nat.beq a k) = true := hok
    simp only [Bool.and_eq_true] at hok
    obtain ⟨hok, hok2⟩ := hok
    obtain ⟨hd, rfl⟩ := xdec_spec hok
    have hok2 := Nat.eq_of_beq_eq_true hok2
    obtain ⟨x, st, rfl, hrun1⟩ := xL1_s hrun
    clear hrun
    have hrun := hrun1
    clear hrun1
    obtain ⟨lo', hst, hrun1⟩ := xS_s hrun
    clear hrun
    have hrun := hrun1
    clear hrun1
    have hlt := (xst2_spec _ _ _ _ hst).1
    rw [hL.2.1] at hlt
    subst hok2
    exact lv_lstore hx hb hd hL.has hlt rfl (fun ls' h' => sm _ _ _ hrun ls' (hL.st2 hst h'))
  | lstore_n k =>
    replace hrun : (xL1 st fun x st => xS (xst2 (.long x) a lo) fun l => xrun V F G fu M (nx, l, st) h) = some (o, hf) := hrun
    replace hok : (xdec M pc nx (.lstore_n k) 1 && Nat.beq a k.val) = true := hok
    simp only [Bool.and_eq_true] at hok
    obtain ⟨hok, hok2⟩ := hok
    obtain ⟨hd, rfl⟩ := xdec_spec hok
    have hok2 := Nat.eq_of_beq_eq_true hok2
    obtain ⟨x, st, rfl, hrun1⟩ := xL1_s hrun
    clear hrun
    have hrun := hrun1
    clear hrun1
    obtain ⟨lo', hst, hrun1⟩ := xS_s hrun
    clear hrun
    have hrun := hrun1
    clear hrun1
    have hlt := (xst2_spec _ _ _ _ hst).1
    rw [hL.2.1] at hlt
    exact lv_lstore_n hx hb hd hok2.symm hL.has hlt rfl (fun ls' h' => sm _ _ _ hrun ls' (hL.st2 hst h'))
  | iinc k kn =>
    replace hrun : (xvI (xget lo a) fun x => xvN v fun c => xS (xst1 (.int (x + c)) a lo) fun l => xrun V F G fu M (nx, l, st) h) = some (o, hf) := hrun
    replace hok : (xdec M pc nx (.iinc k kn) 3 && Nat.beq a k && decide (v = .int (Int32.ofInt kn))) = true := hok
    simp only [Bool.and_eq_true] at hok
    obtain ⟨⟨hok, hok2⟩, hok3⟩ := hok
    obtain ⟨hd, rfl⟩ := xdec_spec hok
    have hok2 := Nat.eq_of_beq_eq_true hok2
    have hok3 := of_decide_eq_true hok3
    subst hok2
    subst hok3
    obtain ⟨x, hv, hrun1⟩ := xvI_s hrun
    clear hrun
    have hrun := hrun1
    clear hrun1
    obtain ⟨cn, hcn, hrun1⟩ := xvN_s hrun
    clear hrun
    have hrun := hrun1
    clear hrun1
    cases hcn
    obtain ⟨lo', hst, hrun1⟩ := xS_s hrun
    clear hrun
    have hrun := hrun1
    clear hrun1
    have hlt := (xst1_spec _ _ _ _ hst).1
    rw [hL.2.1] at hlt
    obtain ⟨kq, hkq⟩ := List.getElem?_of_mem (xal_mem (q := (a, Value.int x)).mpr hv)
    exact lv_iinc hx hb hd hL.has hkq rfl hlt rfl (fun ls' h' => sm _ _ _ hrun ls' (hL.st1 hst h'))
  | iadd =>
    replace hrun : (xI2 st fun x y st => xrun V F G fu M (nx, lo, .int (x + y) :: st) h) = some (o, hf) := hrun
    replace hok : (xdec M pc nx .iadd 1) = true := hok
    obtain ⟨hd, rfl⟩ := xdec_spec hok
    obtain ⟨x, y, st, rfl, hrun1⟩ := xI2_s hrun
    clear hrun
    have hrun := hrun1
    clear hrun1
    exact lv_iadd hx hb hd (sm _ _ _ hrun ls hL)
  | isub =>
    replace hrun : (xI2 st fun x y st => xrun V F G fu M (nx, lo, .int (x - y) :: st) h) = some (o, hf) := hrun
    replace hok : (xdec M pc nx .isub 1) = true := hok
    obtain ⟨hd, rfl⟩ := xdec_spec hok
    obtain ⟨x, y, st, rfl, hrun1⟩ := xI2_s hrun
    clear hrun
    have hrun := hrun1
    clear hrun1
    exact lv_isub hx hb hd (sm _ _ _ hrun ls hL)
  | imul =>
    replace hrun : (xI2 st fun x y st => xrun V F G fu M (nx, lo, .int (x * y) :: st) h) = some (o, hf) := hrun
    replace hok : (xdec M pc nx .imul 1) = true := hok
    obtain ⟨hd, rfl⟩ := xdec_spec hok
    obtain ⟨x, y, st, rfl, hrun1⟩ := xI2_s hrun
    clear hrun
    have hrun := hrun1
    clear hrun1
    exact lv_imul hx hb hd (sm _ _ _ hrun ls hL)
  | iand =>
    replace hrun : (xI2 st fun x y st => xrun V F G fu M (nx, lo, .int (x &&& y) :: st) h) = some (o, hf) := hrun
    replace hok : (xdec M pc nx .iand 1) = true := hok
    obtain ⟨hd, rfl⟩ := xdec_spec hok
    obtain ⟨x, y, st, rfl, hrun1⟩ := xI2_s hrun
    clear hrun
    have hrun := hrun1
    clear hrun1
    exact lv_iand hx hb hd (sm _ _ _ hrun ls hL)
  | ior =>
    replace hrun : (xI2 st fun x y st => xrun V F G fu M (nx, lo, .int (x ||| y) :: st) h) = some (o, hf) := hrun
    replace hok : (xdec M pc nx .ior 1) = true := hok
    obtain ⟨hd, rfl⟩ := xdec_spec hok
    obtain ⟨x, y, st, rfl, hrun1⟩ := xI2_s hrun
    clear hrun
    have hrun := hrun1
    clear hrun1
    exact lv_ior hx hb hd (sm _ _ _ hrun ls hL)
  | ixor =>
    replace hrun : (xI2 st fun x y st => xrun V F G fu M (nx, lo, .int (x ^^^ y) :: st) h) = some (o, hf) := hrun
    replace hok : (xdec M pc nx .ixor 1) = true := hok
    obtain ⟨hd, rfl⟩ := xdec_spec hok
    obtain ⟨x, y, st, rfl, hrun1⟩ := xI2_s hrun
    clear hrun
    have hrun := hrun1
    clear hrun1
    exact lv_ixor hx hb hd (sm _ _ _ hrun ls hL)
  | ishl =>
    replace hrun : (xI2 st fun x y st => xrun V F G fu M (nx, lo, .int (x <<< (y &&& 31)) :: st) h) = some (o, hf) := hrun
    replace hok : (xdec M pc nx .ishl 1) = true := hok
    obtain ⟨hd, rfl⟩ := xdec_spec hok
    obtain ⟨x, y, st, rfl, hrun1⟩ := xI2_s hrun
    clear hrun
    have hrun := hrun1
    clear hrun1
    exact lv_ishl hx hb hd (sm _ _ _ hrun ls hL)
  | ishr =>
    replace hrun : (xI2 st fun x y st => xrun V F G fu M (nx, lo, .int (x >>> (y &&& 31)) :: st) h) = some (o, hf) := hrun
    replace hok : (xdec M pc nx .ishr 1) = true := hok
    obtain ⟨hd, rfl⟩ := xdec_spec hok
    obtain ⟨x, y, st, rfl, hrun1⟩ := xI2_s hrun
    clear hrun
    have hrun := hrun1
    clear hrun1
    exact lv_ishr hx hb hd (sm _ _ _ hrun ls hL)
  | iushr =>
    replace hrun : (xI2 st fun x y st => xrun V F G fu M (nx, lo, .int ((x.toUInt32 >>> (y.toUInt32 &&& Int32.toUInt32 31)).toInt32) :: st) h) = some (o, hf) := hrun
    replace hok : (xdec M pc nx .iushr 1) = true := hok
    obtain ⟨hd, rfl⟩ := xdec_spec hok
    obtain ⟨x, y, st, rfl, hrun1⟩ := xI2_s hrun
    clear hrun
    have hrun := hrun1
    clear hrun1
    exact lv_iushr hx hb hd rfl (sm _ _ _ hrun ls hL)
  | idiv =>
    replace hrun : (xI2 st fun x y st => xN (y = 0) (xrun V F G fu M (nx, lo, .int (x / y) :: st) h)) = some (o, hf) := hrun
    replace hok : (xdec M pc nx .idiv 1) = true := hok
    obtain ⟨hd, rfl⟩ := xdec_spec hok
    obtain ⟨x, y, st, rfl, hrun1⟩ := xI2_s hrun
    clear hrun
    have hrun := hrun1
    clear hrun1
    obtain ⟨hy, hrun1⟩ := xN_s hrun
    clear hrun
    have hrun := hrun1
    clear hrun1
    exact lv_idiv hx hb hd hy (sm _ _ _ hrun ls hL)
  | irem =>
    replace hrun : (xI2 st fun x y st => xN (y = 0) (xrun V F G fu M (nx, lo, .int (x - x / y * y) :: st) h)) = some (o, hf) := hrun
    replace hok : (xdec M pc nx .irem 1) = true := hok
    obtain ⟨hd, rfl⟩ := xdec_spec hok
    obtain ⟨x, y, st, rfl, hrun1⟩ := xI2_s hrun
    clear hrun
    have hrun := hrun1
    clear hrun1
    obtain ⟨hy, hrun1⟩ := xN_s hrun
    clear hrun
    have hrun := hrun1
    clear hrun1
    exact lv_irem hx hb hd hy (sm _ _ _ hrun ls hL)
  | ineg =>
    replace hrun : (xI1 st fun x st => xrun V F G fu M (nx, lo, .int (-x) :: st) h) = some (o, hf) := hrun
    replace hok : (xdec M pc nx .ineg 1) = true := hok
    obtain ⟨hd, rfl⟩ := xdec_spec hok
    obtain ⟨x, st, rfl, hrun1⟩ := xI1_s hrun
    clear hrun
    have hrun := hrun1
    clear hrun1
    exact lv_ineg hx hb hd (sm _ _ _ hrun ls hL)
  | ladd =>
    replace hrun : (xL2 st fun x y st => xrun V F G fu M (nx, lo, .long (x + y) :: st) h) = some (o, hf) := hrun
    replace hok : (xdec M pc nx .ladd 1) = true := hok
    obtain ⟨hd, rfl⟩ := xdec_spec hok
    obtain ⟨x, y, st, rfl, hrun1⟩ := xL2_s hrun
    clear hrun
    have hrun := hrun1
    clear hrun1
    exact lv_ladd hx hb hd (sm _ _ _ hrun ls hL)
  | lsub =>
    replace hrun : (xL2 st fun x y st => xrun V F G fu M (nx, lo, .long (x - y) :: st) h) = some (o, hf) := hrun
    replace hok : (xdec M pc nx .lsub 1) = true := hok
    obtain ⟨hd, rfl⟩ := xdec_spec hok
    obtain ⟨x, y, st, rfl, hrun1⟩ := xL2_s hrun
    clear hrun
    have hrun := hrun1
    clear hrun1
    exact lv_lsub hx hb hd (sm _ _ _ hrun ls hL)
  | land =>
    replace hrun : (xL2 st fun x y st => xrun V F G fu M (nx, lo, .long (x &&& y) :: st) h) = some (o, hf) := hrun
    replace hok : (xdec M pc nx .land 1) = true := hok
    obtain ⟨hd, rfl⟩ := xdec_spec hok
    obtain ⟨x, y, st, rfl, hrun1⟩ := xL2_s hrun
    clear hrun
    have hrun := hrun1
    clear hrun1
    exact lv_land hx hb hd (sm _ _ _ hrun ls hL)
  | lor =>
    replace hrun : (xL2 st fun x y st => xrun V F G fu M (nx, lo, .long (x ||| y) :: st) h) = some (o, hf) := hrun
    replace hok : (xdec M pc nx .lor 1) = true := hok
    obtain ⟨hd, rfl⟩ := xdec_spec hok
    obtain ⟨x, y, st, rfl, hrun1⟩ := xL2_s hrun
    clear hrun
    have hrun := hrun1
    clear hrun1
    exact lv_lor hx hb hd (sm _ _ _ hrun ls hL)
  | lshl =>
    replace hrun : (xLI st fun x y st => xrun V F G fu M (nx, lo, .long (x <<< (y.toInt64 &&& 63)) :: st) h) = some (o, hf) := hrun
    replace hok : (xdec M pc nx .lshl 1) = true := hok
    obtain ⟨hd, rfl⟩ := xdec_spec hok
    obtain ⟨x, y, st, rfl, hrun1⟩ := xLI_s hrun
    clear hrun
    have hrun := hrun1
    clear hrun1
    exact lv_lshl hx hb hd rfl (sm _ _ _ hrun ls hL)
  | lushr =>
    replace hrun : (xLI st fun x y st => xrun V F G fu M (nx, lo, .long ((x.toUInt64 >>> (y.toInt64.toUInt64 &&& Int64.toUInt64 63)).toInt64) :: st) h) = some (o, hf) := hrun
    replace hok : (xdec M pc nx .lushr 1) = true := hok
    obtain ⟨hd, rfl⟩ := xdec_spec hok
    obtain ⟨x, y, st, rfl, hrun1⟩ := xLI_s hrun
    clear hrun
    have hrun := hrun1
    clear hrun1
    exact lv_lushr hx hb hd rfl (sm _ _ _ hrun ls hL)
  | lcmp =>
    replace hrun : (xL2 st fun x y st => xrun V F G fu M (nx, lo, .int (lg_cmp x y) :: st) h) = some (o, hf) := hrun
    replace hok : (xdec M pc nx .lcmp 1) = true := hok
    obtain ⟨hd, rfl⟩ := xdec_spec hok
    obtain ⟨x, y, st, rfl, hrun1⟩ := xL2_s hrun
    clear hrun
    have hrun := hrun1
    clear hrun1
    exact W.lcmp hx hb hd (sm _ _ _ hrun ls hL)
  | i2l =>
    replace hrun : (xI1 st fun x st => xrun V F G fu M (nx, lo, .long x.toInt64 :: st) h) = some (o, hf) := hrun
    replace hok : (xdec M pc nx .i2l 1) = true := hok
    obtain ⟨hd, rfl⟩ := xdec_spec hok
    obtain ⟨x, st, rfl, hrun1⟩ := xI1_s hrun
    clear hrun
    have hrun := hrun1
    clear hrun1
    exact lv_i2l hx hb hd rfl (sm _ _ _ hrun ls hL)
  | l2i =>
    replace hrun : (xL1 st fun x st => xrun V F G fu M (nx, lo, .int x.toInt32 :: st) h) = some (o, hf) := hrun
    replace hok : (xdec M pc nx .l2i 1) = true := hok
    obtain ⟨hd, rfl⟩ := xdec_spec hok
    obtain ⟨x, st, rfl, hrun1⟩ := xL1_s hrun
    clear hrun
    have hrun := hrun1
    clear hrun1
    exact lv_l2i hx hb hd rfl (sm _ _ _ hrun ls hL)
  | dup =>
    replace hok : (xdec M pc nx .dup 1) = true := hok
    obtain ⟨hd, rfl⟩ := xdec_spec hok
    rcases st with _ | ⟨w, st⟩
    · cases hrun
    · obtain ⟨h1, hrun1⟩ := xB_s hrun
      clear hrun
      have hrun := hrun1
      clear hrun1
      exact lv_dup hx hb hd (xcat1_s h1) (sm _ _ _ hrun ls hL)
  | dup2 =>
    replace hok : (xdec M pc nx .dup2 1) = true := hok
    obtain ⟨hd, rfl⟩ := xdec_spec hok
    rcases st with _ | ⟨w, _ | ⟨u, st⟩⟩
    · cases hrun
    · cases hrun
    · obtain ⟨h1, hrun1⟩ := xB_s hrun
      clear hrun
      have hrun := hrun1
      clear hrun1
      simp only [Bool.and_eq_true] at h1
      exact lv_dup2_11 hx hb hd (xcat1_s h1.1) (xcat1_s h1.2) (sm _ _ _ hrun ls hL)
  | dup_x1 =>
    replace hok : (xdec M pc nx .dup_x1 1) = true := hok
    obtain ⟨hd, rfl⟩ := xdec_spec hok
    rcases st with _ | ⟨w, _ | ⟨u, st⟩⟩
    · cases hrun
    · cases hrun
    · obtain ⟨h1, hrun1⟩ := xB_s hrun
      clear hrun
      have hrun := hrun1
      clear hrun1
      simp only [Bool.and_eq_true] at h1
      exact lv_dup_x1 hx hb hd (xcat1_s h1.1) (xcat1_s h1.2) (sm _ _ _ hrun ls hL)
  | dup_x2 =>
    replace hok : (xdec M pc nx .dup_x2 1) = true := hok
    obtain ⟨hd, rfl⟩ := xdec_spec hok
    rcases st with _ | ⟨w, _ | ⟨u, _ | ⟨t, st⟩⟩⟩
    · cases hrun
    · cases hrun
    · cases hrun
    · obtain ⟨h1, hrun1⟩ := xB_s hrun
      clear hrun
      have hrun := hrun1
      clear hrun1
      simp only [Bool.and_eq_true] at h1
      exact lv_dup_x2 hx hb hd (xcat1_s h1.1.1) (xcat1_s h1.1.2) (xcat1_s h1.2) (sm _ _ _ hrun ls hL)
  | pop =>
    replace hok : (xdec M pc nx .pop 1) = true := hok
    obtain ⟨hd, rfl⟩ := xdec_spec hok
    rcases st with _ | ⟨w, st⟩
    · cases hrun
    · obtain ⟨h1, hrun1⟩ := xB_s hrun
      clear hrun
      have hrun := hrun1
      clear hrun1
      exact lv_pop hx hb hd (xcat1_s h1) (sm _ _ _ hrun ls hL)
  | ifCond cn off =>
    replace hrun : (xI1 st fun x st => xif cn x 0 (xrun V F G fu M (a, lo, st) h) (xrun V F G fu M (nx, lo, st) h)) = some (o, hf) := hrun
    replace hok : (xdec M pc nx (.ifCond cn off) 3 && decide ((pc : Int) + off = (a : Int))) = true := hok
    simp only [Bool.and_eq_true] at hok
    obtain ⟨hok, hok2⟩ := hok
    obtain ⟨hd, rfl⟩ := xdec_spec hok
    have ht := of_decide_eq_true hok2
    obtain ⟨x, st, rfl, hrun1⟩ := xI1_s hrun
    clear hrun
    have hrun := hrun1
    clear hrun1
    cases cn with
    | eq => exact lv_if_eq hx hb hd ht (fun hc => sm _ _ _ ((if_pos hc).symm.trans hrun) ls hL) (fun hc => sm _ _ _ ((if_neg hc).symm.trans hrun) ls hL)
    | ne => exact lv_if_ne hx hb hd ht (fun hc => sm _ _ _ ((if_neg hc).symm.trans hrun) ls hL) (fun hc => sm _ _ _ ((if_pos hc).symm.trans hrun) ls hL)
    | lt => exact lv_if_lt hx hb hd ht (fun hc => sm _ _ _ ((if_pos hc).symm.trans hrun) ls hL) (fun hc => sm _ _ _ ((if_neg hc).symm.trans hrun) ls hL)
    | ge => exact lv_if_ge hx hb hd ht (fun hc => sm _ _ _ ((if_pos hc).symm.trans hrun) ls hL) (fun hc => sm _ _ _ ((if_neg hc).symm.trans hrun) ls hL)
    | gt => exact lv_if_gt hx hb hd ht (fun hc => sm _ _ _ ((if_pos hc).symm.trans hrun) ls hL) (fun hc => sm _ _ _ ((if_neg hc).symm.trans hrun) ls hL)
    | le => exact lv_if_le hx hb hd ht (fun hc => sm _ _ _ ((if_pos hc).symm.trans hrun) ls hL) (fun hc => sm _ _ _ ((if_neg hc).symm.trans hrun) ls hL)
  | if_icmp cn off =>
    replace hrun : (xI2 st fun x y st => xif cn x y (xrun V F G fu M (a, lo, st) h) (xrun V F G fu M (nx, lo, st) h)) = some (o, hf) := hrun
    replace hok : (xdec M pc nx (.if_icmp cn off) 3 && decide ((pc : Int) + off = (a : Int))) = true := hok
    simp only [Bool.and_eq_true] at hok
    obtain ⟨hok, hok2⟩ := hok
    obtain ⟨hd, rfl⟩ := xdec_spec hok
    have ht := of_decide_eq_true hok2
    obtain ⟨x, y, st, rfl, hrun1⟩ := xI2_s hrun
    clear hrun
    have hrun := hrun1
    clear hrun1
    cases cn with
    | eq => exact lv_icmp_eq hx hb hd ht (fun hc => sm _ _ _ ((if_pos hc).symm.trans hrun) ls hL) (fun hc => sm _ _ _ ((if_neg hc).symm.trans hrun) ls hL)
    | ne => exact lv_icmp_ne hx hb hd ht (fun hc => sm _ _ _ ((if_neg hc).symm.trans hrun) ls hL) (fun hc => sm _ _ _ ((if_pos hc).symm.trans hrun) ls hL)
    | lt => exact lv_icmp_lt hx hb hd ht (fun hc => sm _ _ _ ((if_pos hc).symm.trans hrun) ls hL) (fun hc => sm _ _ _ ((if_neg hc).symm.trans hrun) ls hL)
    | ge => exact lv_icmp_ge hx hb hd ht (fun hc => sm _ _ _ ((if_pos hc).symm.trans hrun) ls hL) (fun hc => sm _ _ _ ((if_neg hc).symm.trans hrun) ls hL)
    | gt => exact lv_icmp_gt hx hb hd ht (fun hc => sm _ _ _ ((if_pos hc).symm.trans hrun) ls hL) (fun hc => sm _ _ _ ((if_neg hc).symm.trans hrun) ls hL)
    | le => exact lv_icmp_le hx hb hd ht (fun hc => sm _ _ _ ((if_pos hc).symm.trans hrun) ls hL) (fun hc => sm _ _ _ ((if_neg hc).symm.trans hrun) ls hL)
  | goto off =>
    replace hrun : (xrun V F G fu M (a, lo, st) h) = some (o, hf) := hrun
    replace hok : (xdec M pc nx (.goto off) 3 && decide ((pc : Int) + off = (a : Int))) = true := hok
    simp only [Bool.and_eq_true] at hok
    obtain ⟨hok, hok2⟩ := hok
    obtain ⟨hd, rfl⟩ := xdec_spec hok
    exact lv_goto hx hb hd (of_decide_eq_true hok2) (sm _ _ _ hrun ls hL)
  | tableswitch df lw hi offs =>
    replace hrun : (xI1 st fun x st => if x.toInt < lw ∨ hi < x.toInt then xrun V F G fu M (a, lo, st) h else
      xS offs[(x.toInt - lw).toNat]? fun o => xN ((pc : Int) + o < 0) (xrun V F G fu M (((pc : Int) + o).toNat, lo, st) h)) = some (o, hf) := hrun
    replace hok : (decide (decode (xby M) pc = .ok (.tableswitch df lw hi offs, nx - pc)) && decide ((pc : Int) + df = (a : Int))) = true := hok
    simp only [Bool.and_eq_true] at hok
    have hd := of_decide_eq_true hok.1
    have ht := of_decide_eq_true hok.2
    obtain ⟨x, st, rfl, hrun1⟩ := xI1_s hrun
    clear hrun
    have hrun := hrun1
    clear hrun1
    by_cases hq : x.toInt < lw ∨ hi < x.toInt
    · rw [if_pos hq] at hrun
      exact lv_tableOut hx hb hd hq ht (sm _ _ _ hrun ls hL)
    · rw [if_neg hq] at hrun
      obtain ⟨of, ho, hrun1⟩ := xS_s hrun
      clear hrun
      have hrun := hrun1
      clear hrun1
      obtain ⟨hn0, hrun1⟩ := xN_s hrun
      clear hrun
      have hrun := hrun1
      clear hrun1
      exact lv_tableIn hx hb hd (fun z => hq (Or.inl z)) (fun z => hq (Or.inr z)) ho (by omega) (sm _ _ _ hrun ls hL)
  | ireturn =>
    replace hok : (xdec M pc nx .ireturn 1) = true := hok
    obtain ⟨hd, rfl⟩ := xdec_spec hok
    replace hrun : (match (generalizing := false) st, xrt M with | [.int x], some .int => some (.inl (some (.int x)), h) | [.int x], some .boolean => xB (decide (x = 0 ∨ x = 1)) (some (.inl (some (.int x)), h)) | _, _ => none) = some (o, hf) := hrun
    split at hrun
    · next x he =>
      simp only [Option.some.injEq, Prod.mk.injEq] at hrun
      obtain ⟨rfl, rfl⟩ := hrun
      exact xW_mono (xMQ (v := some (.int x)) hR) (W.iret hx hb (hrt.trans he) (fun t ht _ => ⟨rfl, ht⟩) hl hd hlk)
    · next x he =>
      obtain ⟨h1, hrun1⟩ := xB_s hrun
      clear hrun
      have hrun := hrun1
      clear hrun1
      have h1 := of_decide_eq_true h1
      simp only [Option.some.injEq, Prod.mk.injEq] at hrun
      obtain ⟨rfl, rfl⟩ := hrun
      exact xW_mono (xMQ (v := some (.int x)) hR) (W.zret hx hb (hrt.trans he) (by rcases h1 with rfl | rfl <;> rfl) (fun t ht _ => ⟨rfl, ht⟩) hl hd hlk)
    · cases hrun
  | lreturn =>
    replace hok : (xdec M pc nx .lreturn 1) = true := hok
    obtain ⟨hd, rfl⟩ := xdec_spec hok
    replace hrun : (match (generalizing := false) st, xrt M with | [.long x], some .long => some (.inl (some (.long x)), h) | _, _ => none) = some (o, hf) := hrun
    split at hrun
    · next x he =>
      simp only [Option.some.injEq, Prod.mk.injEq] at hrun
      obtain ⟨rfl, rfl⟩ := hrun
      exact xW_mono (xMQ (v := some (.long x)) hR) (W.lret hx hb (hrt.trans he) (fun t ht _ => ⟨rfl, ht⟩) hl hd hlk)
    · cases hrun
  | areturn =>
    replace hok : (xdec M pc nx .areturn 1) = true := hok
    obtain ⟨hd, rfl⟩ := xdec_spec hok
    replace hrun : (match (generalizing := false) st, xrt M with | [.ref x], some (.object _) => some (.inl (some (.ref x)), h) | [.ref x], some (.array _) => some (.inl (some (.ref x)), h) | _, _ => none) = some (o, hf) := hrun
    split at hrun
    · next x nm he =>
      simp only [Option.some.injEq, Prod.mk.injEq] at hrun
      obtain ⟨rfl, rfl⟩ := hrun
      exact xW_mono (xMQ (v := some (.ref x)) hR) (W.aret hx hb (hrt.trans he) (Or.inl ⟨_, rfl⟩) (Or.inr ⟨_, rfl⟩) (fun t ht _ => ⟨rfl, ht⟩) hl hd hlk)
    · next x nm he =>
      simp only [Option.some.injEq, Prod.mk.injEq] at hrun
      obtain ⟨rfl, rfl⟩ := hrun
      exact xW_mono (xMQ (v := some (.ref x)) hR) (W.aret hx hb (hrt.trans he) (Or.inr ⟨_, rfl⟩) (Or.inr ⟨_, rfl⟩) (fun t ht _ => ⟨rfl, ht⟩) hl hd hlk)
    · cases hrun
  | return_ =>
    replace hok : (xdec M pc nx .return_ 1) = true := hok
    obtain ⟨hd, rfl⟩ := xdec_spec hok
    replace hrun : (match (generalizing := false) st, xrt M with | [], none => some (.inl none, h) | _, _ => none) = some (o, hf) := hrun
    split at hrun
    · next he =>
      simp only [Option.some.injEq, Prod.mk.injEq] at hrun
      obtain ⟨rfl, rfl⟩ := hrun
      exact xW_mono (xMQ (v := none) hR) (W.vret hx hb (hrt.trans he) (fun t ht _ => ⟨rfl, ht⟩) hl hd hlk)
    · cases hrun
  | getfield k =>
    replace hrun : (xA1 st fun o st => xcO (h.1 o) fun c fs => xB (Nat.beq c a) (xS (xnth fs b) fun w => xrun V F G fu M (nx, lo, w :: st) h)) = some (o, hf) := hrun
    replace hok : (xdec M pc nx (.getfield k) 3 && (match (generalizing := false) cl[a]? with | some (_, T, N) => Nat.blt b N && xin WL (hs.getD 0 0) (.fieldLink (xnm M).cls k (T b).1 (T b).2.1 (T b).2.2.1) | none => false)) = true := hok
    simp only [Bool.and_eq_true] at hok
    obtain ⟨hok, hok2⟩ := hok
    obtain ⟨hd, rfl⟩ := xdec_spec hok
    split at hok2
    · next C0 T0 N1 hc =>
      simp only [Bool.and_eq_true, Nat.blt_eq] at hok2
      obtain ⟨ob, st, rfl, hrun1⟩ := xA1_s hrun
      clear hrun
      have hrun := hrun1
      clear hrun1
      obtain ⟨c0, fs, ho, hrun1⟩ := xcO_s hrun
      clear hrun
      have hrun := hrun1
      clear hrun1
      obtain ⟨h1, hrun1⟩ := xB_s hrun
      clear hrun
      have hrun := hrun1
      clear hrun1
      have h1 := Nat.eq_of_beq_eq_true h1
      subst h1
      obtain ⟨w, hw, hrun1⟩ := xS_s hrun
      clear hrun
      have hrun := hrun1
      clear hrun1
      rw [xnth_eq] at hw
      exact xw_get hx hb hts hK hR (hU _ _ _ _ hc).1 hown ho hc hok2.1 (hts _ (xin_mem hok2.2)) hw hd (sm _ _ _ hrun ls hL)
    · cases hok2
  | putfield k =>
    replace hrun : (xAV st fun o w st => xvK v fun k => xcO (h.1 o) fun c fs => xB (Nat.beq c a && Nat.blt b fs.length && xfit k w) (xrun V F G fu M (nx, lo, st) (xset h o (xO' c (xupd fs b w))))) = some (o, hf) := hrun
    replace hok : (xdec M pc nx (.putfield k) 3 && (match (generalizing := false) cl[a]? with | some (_, T, N) => Nat.blt b N && xin WL (hs.getD 0 0) (.fieldLink (xnm M).cls k (T b).1 (T b).2.1 (T b).2.2.1) && (!(T b).2.2.2 || (decide ((xnm M).name = "<init>") && decide ((T b).1 = (xnm M).cls))) && (match (generalizing := false) v with | .retAddr q => xkind q (ty0 a b) | _ => false) | none => false)) = true := hok
    simp only [Bool.and_eq_true] at hok
    obtain ⟨hok, hok2⟩ := hok
    obtain ⟨hd, rfl⟩ := xdec_spec hok
    split at hok2
    · next C0 T0 N1 hc =>
      simp only [Bool.and_eq_true, Nat.blt_eq] at hok2
      obtain ⟨⟨⟨k1, k2⟩, k3⟩, k4⟩ := hok2
      obtain ⟨ob, w, st, rfl, hrun1⟩ := xAV_s hrun
      clear hrun
      have hrun := hrun1
      clear hrun1
      obtain ⟨kk, rfl, hrun1⟩ := xvK_s hrun
      clear hrun
      have hrun := hrun1
      clear hrun1
      obtain ⟨c0, fs, ho, hrun1⟩ := xcO_s hrun
      clear hrun
      have hrun := hrun1
      clear hrun1
      obtain ⟨h1, hrun1⟩ := xB_s hrun
      clear hrun
      have hrun := hrun1
      clear hrun1
      simp only [Bool.and_eq_true, Nat.blt_eq] at h1
      obtain ⟨⟨h1, h2⟩, h3⟩ := h1
      have h1 := Nat.eq_of_beq_eq_true h1
      subst h1
      have k4 : xkind kk (ty0 c0 b) = true := k4
      have hnf := xkind_fit k4 h3
      have hfin : (T0 b).2.2.2 = false ∨ ((T0 b).2.2.2 = true ∧ meth.name = "<init>" ∧ (T0 b).1 = (xnm M).cls) := by
        cases hfl : (T0 b).2.2.2 with
        | false => exact Or.inl rfl
        | true =>
          rw [hfl] at k3
          simp only [Bool.not_true, Bool.false_or, Bool.and_eq_true, decide_eq_true_eq] at k3
          exact Or.inr ⟨rfl, (name_of_methodNamed hnm hmeth).1.trans k3.1, k3.2⟩
      obtain ⟨u1, u2, u3, -⟩ := hU _ _ _ _ hc
      exact xw_put hx hb hts hK hR hl u1 (ty0 c0) u2 u3 hown ho hc k1 (hts _ (xin_mem k2)) hfin hnf.1 hnf.2 h2 hd (fun H1 locs1 r1 r2 => go (_, _, _) _ hrun hN hS H1 locs1 ls r1 hL r2)
    · cases hok2
  | iaload =>
    replace hrun : (xAI st fun o j st => xcI (h.1 o) fun t n g => xB (Nat.beq t 0 || Nat.beq t 3) (xN (j < 0 ∨ n ≤ j.toNatClampNeg) (xrun V F G fu M (nx, lo, .int (g j.toNatClampNeg) :: st) h))) = some (o, hf) := hrun
    replace hok : (xdec M pc nx .iaload 1) = true := hok
    obtain ⟨hd, rfl⟩ := xdec_spec hok
    obtain ⟨ob, j, st, rfl, hrun1⟩ := xAI_s hrun
    clear hrun
    have hrun := hrun1
    clear hrun1
    obtain ⟨t, n1, gg, ho, hrun1⟩ := xcI_s hrun
    clear hrun
    have hrun := hrun1
    clear hrun1
    obtain ⟨h1, hrun1⟩ := xB_s hrun
    clear hrun
    have hrun := hrun1
    clear hrun1
    obtain ⟨hj, hrun1⟩ := xN_s hrun
    clear hrun
    have hrun := hrun1
    clear hrun1
    simp only [Bool.or_eq_true] at h1
    exact xw_iald hx hb hR ho (h1.imp Nat.eq_of_beq_eq_true Nat.eq_of_beq_eq_true) hj hd (sm _ _ _ hrun ls hL)
  | baload =>
    replace hrun : (xAI st fun o j st => xcI (h.1 o) fun t n g => xB (Nat.beq t 2) (xN (j < 0 ∨ n ≤ j.toNatClampNeg) (xrun V F G fu M (nx, lo, .int (g j.toNatClampNeg) :: st) h))) = some (o, hf) := hrun
    replace hok : (xdec M pc nx .baload 1) = true := hok
    obtain ⟨hd, rfl⟩ := xdec_spec hok
    obtain ⟨ob, j, st, rfl, hrun1⟩ := xAI_s hrun
    clear hrun
    have hrun := hrun1
    clear hrun1
    obtain ⟨t, n1, gg, ho, hrun1⟩ := xcI_s hrun
    clear hrun
    have hrun := hrun1
    clear hrun1
    obtain ⟨h1, hrun1⟩ := xB_s hrun
    clear hrun
    have hrun := hrun1
    clear hrun1
    obtain ⟨hj, hrun1⟩ := xN_s hrun
    clear hrun
    have hrun := hrun1
    clear hrun1
    have h1 := Nat.eq_of_beq_eq_true h1
    subst h1
    exact xw_zald hx hb hR ho hj hd (sm _ _ _ hrun ls hL)
  | laload =>
    replace hrun : (xAI st fun o j st => xcL (h.1 o) fun t n g => xB (Nat.beq t 1) (xN (j < 0 ∨ n ≤ j.toNatClampNeg) (xrun V F G fu M (nx, lo, .long (g j.toNatClampNeg) :: st) h))) = some (o, hf) := hrun
    replace hok : (xdec M pc nx .laload 1) = true := hok
    obtain ⟨hd, rfl⟩ := xdec_spec hok
    obtain ⟨ob, j, st, rfl, hrun1⟩ := xAI_s hrun
    clear hrun
    have hrun := hrun1
    clear hrun1
    obtain ⟨t, n1, gg, ho, hrun1⟩ := xcL_s hrun
    clear hrun
    have hrun := hrun1
    clear hrun1
    obtain ⟨h1, hrun1⟩ := xB_s hrun
    clear hrun
    have hrun := hrun1
    clear hrun1
    obtain ⟨hj, hrun1⟩ := xN_s hrun
    clear hrun
    have hrun := hrun1
    clear hrun1
    have h1 := Nat.eq_of_beq_eq_true h1
    subst h1
    exact xw_lald hx hb hR ho hj hd (sm _ _ _ hrun ls hL)
  | aaload =>
    replace hrun : (xAI st fun o j st => xcR (h.1 o) fun t n g => xB (Nat.ble 4 t) (xN (j < 0 ∨ n ≤ j.toNatClampNeg) (xS (g j.toNatClampNeg) fun w => xrun V F G fu M (nx, lo, .ref w :: st) h))) = some (o, hf) := hrun
    replace hok : (xdec M pc nx .aaload 1) = true := hok
    obtain ⟨hd, rfl⟩ := xdec_spec hok
    obtain ⟨ob, j, st, rfl, hrun1⟩ := xAI_s hrun
    clear hrun
    have hrun := hrun1
    clear hrun1
    obtain ⟨t, n1, gg, ho, hrun1⟩ := xcR_s hrun
    clear hrun
    have hrun := hrun1
    clear hrun1
    obtain ⟨h1, hrun1⟩ := xB_s hrun
    clear hrun
    have hrun := hrun1
    clear hrun1
    obtain ⟨hj, hrun1⟩ := xN_s hrun
    clear hrun
    have hrun := hrun1
    clear hrun1
    obtain ⟨w, hw, hrun1⟩ := xS_s hrun
    clear hrun
    have hrun := hrun1
    clear hrun1
    exact xw_aald hx hb hR ho (Nat.le_of_ble_eq_true h1) hj hw hd (sm _ _ _ hrun ls hL)
  | iastore =>
    replace hrun : (xAII st fun o j x st => xcI (h.1 o) fun t n g => xB (Nat.beq t 0) (xN (j < 0 ∨ n ≤ j.toNatClampNeg) (xrun V F G fu M (nx, lo, st) (xset h o (xA t n (xint (upd g j.toNatClampNeg x))))))) = some (o, hf) := hrun
    replace hok : (xdec M pc nx .iastore 1) = true := hok
    obtain ⟨hd, rfl⟩ := xdec_spec hok
    obtain ⟨ob, j, x, st, rfl, hrun1⟩ := xAII_s hrun
    clear hrun
    have hrun := hrun1
    clear hrun1
    obtain ⟨t, n1, gg, ho, hrun1⟩ := xcI_s hrun
    clear hrun
    have hrun := hrun1
    clear hrun1
    obtain ⟨h1, hrun1⟩ := xB_s hrun
    clear hrun
    have hrun := hrun1
    clear hrun1
    obtain ⟨hj, hrun1⟩ := xN_s hrun
    clear hrun
    have hrun := hrun1
    clear hrun1
    have h1 := Nat.eq_of_beq_eq_true h1
    subst h1
    exact xw_iast hx hb hR hl ho hj hd (fun H1 locs1 r1 r2 => go (_, _, _) _ hrun hN hS H1 locs1 ls r1 hL r2)
  | lastore =>
    replace hrun : (xAIL st fun o j x st => xcL (h.1 o) fun t n g => xB (Nat.beq t 1) (xN (j < 0 ∨ n ≤ j.toNatClampNeg) (xrun V F G fu M (nx, lo, st) (xset h o (xA t n (xlng (vp_updL g j.toNatClampNeg x))))))) = some (o, hf) := hrun
    replace hok : (xdec M pc nx .lastore 1) = true := hok
    obtain ⟨hd, rfl⟩ := xdec_spec hok
    obtain ⟨ob, j, x, st, rfl, hrun1⟩ := xAIL_s hrun
    clear hrun
    have hrun := hrun1
    clear hrun1
    obtain ⟨t, n1, gg, ho, hrun1⟩ := xcL_s hrun
    clear hrun
    have hrun := hrun1
    clear hrun1
    obtain ⟨h1, hrun1⟩ := xB_s hrun
    clear hrun
    have hrun := hrun1
    clear hrun1
    obtain ⟨hj, hrun1⟩ := xN_s hrun
    clear hrun
    have hrun := hrun1
    clear hrun1
    have h1 := Nat.eq_of_beq_eq_true h1
    subst h1
    exact xw_last hx hb hR hl ho hj hd (fun H1 locs1 r1 r2 => go (_, _, _) _ hrun hN hS H1 locs1 ls r1 hL r2)
  | bastore =>
    replace hrun : (xAII st fun o j x st => xcI (h.1 o) fun t n g => xB (Nat.beq t 2 && decide (x = 0 ∨ x = 1)) (xN (j < 0 ∨ n ≤ j.toNatClampNeg) (xrun V F G fu M (nx, lo, st) (xset h o (xA t n (xint (upd g j.toNatClampNeg x))))))) = some (o, hf) := hrun
    replace hok : (xdec M pc nx .bastore 1) = true := hok
    obtain ⟨hd, rfl⟩ := xdec_spec hok
    obtain ⟨ob, j, x, st, rfl, hrun1⟩ := xAII_s hrun
    clear hrun
    have hrun := hrun1
    clear hrun1
    obtain ⟨t, n1, gg, ho, hrun1⟩ := xcI_s hrun
    clear hrun
    have hrun := hrun1
    clear hrun1
    obtain ⟨h1, hrun1⟩ := xB_s hrun
    clear hrun
    have hrun := hrun1
    clear hrun1
    obtain ⟨hj, hrun1⟩ := xN_s hrun
    clear hrun
    have hrun := hrun1
    clear hrun1
    simp only [Bool.and_eq_true] at h1
    have h2 := of_decide_eq_true h1.2
    have h1 := Nat.eq_of_beq_eq_true h1.1
    subst h1
    exact xw_zast hx hb hR hl ho h2 hj hd (fun H1 locs1 r1 r2 => go (_, _, _) _ hrun hN hS H1 locs1 ls r1 hL r2)
  | aastore =>
    replace hrun : (xAIA st fun o j w st => xcR (h.1 o) fun t n g => xcO (h.1 w) fun c _ => xB (Nat.beq t (5 + c)) (xN (j < 0 ∨ n ≤ j.toNatClampNeg) (xrun V F G fu M (nx, lo, st) (xset h o (xA t n (xref (va_up g j.toNatClampNeg (some w)))))))) = some (o, hf) := hrun
    replace hok : (xdec M pc nx .aastore 1) = true := hok
    obtain ⟨hd, rfl⟩ := xdec_spec hok
    obtain ⟨ob, j, w, st, rfl, hrun1⟩ := xAIA_s hrun
    clear hrun
    have hrun := hrun1
    clear hrun1
    obtain ⟨t, n1, gg, ho, hrun1⟩ := xcR_s hrun
    clear hrun
    have hrun := hrun1
    clear hrun1
    obtain ⟨c0, fs, hw, hrun1⟩ := xcO_s hrun
    clear hrun
    have hrun := hrun1
    clear hrun1
    obtain ⟨h1, hrun1⟩ := xB_s hrun
    clear hrun
    have hrun := hrun1
    clear hrun1
    obtain ⟨hj, hrun1⟩ := xN_s hrun
    clear hrun
    have hrun := hrun1
    clear hrun1
    have h1 := Nat.eq_of_beq_eq_true h1
    subst h1
    exact xw_aast hx hb hK hR hl ho hw hj hd (fun H1 locs1 r1 r2 => go (_, _, _) _ hrun hN hS H1 locs1 ls r1 hL r2)
  | arraylength =>
    replace hrun : (xA1 st fun o st => xcA (h.1 o) fun n => xrun V F G fu M (nx, lo, .int (Int32.ofNat n) :: st) h) = some (o, hf) := hrun
    replace hok : (xdec M pc nx .arraylength 1) = true := hok
    obtain ⟨hd, rfl⟩ := xdec_spec hok
    obtain ⟨ob, st, rfl, hrun1⟩ := xA1_s hrun
    clear hrun
    have hrun := hrun1
    clear hrun1
    obtain ⟨t, n1, gg, ho, hrun1⟩ := xcA_s hrun
    clear hrun
    have hrun := hrun1
    clear hrun1
    exact xw_alen hx hb hR ho hd (sm _ _ _ hrun ls hL)
  | newarray k =>
    replace hrun : (xI1 st fun n st => xN (n < 0 ∨ 1000000 < n.toNatClampNeg) (xrun V F G fu M (nx, lo, .ref h.2.1 :: st) (xnew h (xA a n.toNatClampNeg (xzero a)) n.toNatClampNeg))) = some (o, hf) := hrun
    replace hok : (xdec M pc nx (.newarray k) 2 && xnat a k && xin WL (hs.getD 0 0) (.arrayClass (newarray.typeOf k))) = true := hok
    simp only [Bool.and_eq_true] at hok
    obtain ⟨⟨hok, hok2⟩, hok3⟩ := hok
    obtain ⟨hd, rfl⟩ := xdec_spec hok
    obtain ⟨x, st, rfl, hrun1⟩ := xI1_s hrun
    clear hrun
    have hrun := hrun1
    clear hrun1
    obtain ⟨hj, hrun1⟩ := xN_s hrun
    clear hrun
    have hrun := hrun1
    clear hrun1
    have mo := xrun_mono fu _ _ _ _ hrun
    dsimp only [xnew] at mo
    refine xw_newa hx hb hR (of_decide_eq_true hok2) (hts _ (xin_mem hok3)) (fun z => hj (Or.inl z)) (by omega) (by omega) (by omega) hd (fun H1 r1 => ?_)
    refine W.cs (cells' := h.2.1 + 1 - N0) (slots' := h.2.2 + x.toNatClampNeg - S0) (by omega) (by omega) ?_
    exact go (_, _, _) _ hrun (Nat.le_succ_of_le hN) (Nat.le_trans hS (Nat.le_add_right _ _)) H1 locs ls r1 hL hl
  | anewarray k =>
    replace hrun : (xI1 st fun n st => xN (n < 0 ∨ 1000000 < n.toNatClampNeg) (xrun V F G fu M (nx, lo, .ref h.2.1 :: st) (xnew h (xA a n.toNatClampNeg (xzero a)) n.toNatClampNeg))) = some (o, hf) := hrun
    replace hok : (xdec M pc nx (.anewarray k) 3 && Nat.ble 5 a && (match (generalizing := false) cl[a - 5]? with | some r => xin WL (hs.getD 0 0) (.classLink (xnm M).cls k r.1) && xin WL (hs.getD 1 0) (.arrayOver (.object r.1)) | none => false)) = true := hok
    simp only [Bool.and_eq_true] at hok
    obtain ⟨⟨hok, hok2⟩, hok3⟩ := hok
    obtain ⟨hd, rfl⟩ := xdec_spec hok
    have hok2 := Nat.le_of_ble_eq_true hok2
    obtain ⟨k5, rfl⟩ : ∃ k5, a = 5 + k5 := ⟨a - 5, by omega⟩
    rw [show 5 + k5 - 5 = k5 by omega] at hok3
    split at hok3
    · next r hc =>
      simp only [Bool.and_eq_true] at hok3
      obtain ⟨x, st, rfl, hrun1⟩ := xI1_s hrun
      clear hrun
      have hrun := hrun1
      clear hrun1
      obtain ⟨hj, hrun1⟩ := xN_s hrun
      clear hrun
      have hrun := hrun1
      clear hrun1
      have mo := xrun_mono fu _ _ _ _ hrun
      dsimp only [xnew] at mo
      refine xw_newq hx hb hR hc hown (hts _ (xin_mem hok3.1)) (hts _ (xin_mem hok3.2)) (fun z => hj (Or.inl z)) (by omega) (by omega) (by omega) hd (fun H1 r1 => ?_)
      refine W.cs (cells' := h.2.1 + 1 - N0) (slots' := h.2.2 + x.toNatClampNeg - S0) (by omega) (by omega) ?_
      exact go (_, _, _) _ hrun (Nat.le_succ_of_le hN) (Nat.le_trans hS (Nat.le_add_right _ _)) H1 locs ls r1 hL hl
    · cases hok3
  | multianewarray k dm =>
    replace hrun : (xI2 st fun n k st => xN (n < 0 ∨ 1000 < n.toNatClampNeg ∨ k < 0 ∨ 1000000 < k.toNatClampNeg) (xrun V F G fu M (nx, lo, .ref h.2.1 :: st) (xgrid h a b n.toNatClampNeg k.toNatClampNeg))) = some (o, hf) := hrun
    replace hok : (xdec M pc nx (.multianewarray k dm) 4 && Nat.beq dm 2 && Nat.beq a 4 && Nat.beq b 0 && xin WL (hs.getD 0 0) (.classLink (xnm M).cls k "[[I") && xin WL (hs.getD 1 0) (.arrayOver (.array .int)) && xin WL (hs.getD 2 0) (.arrayClass .int)) = true := hok
    simp only [Bool.and_eq_true] at hok
    obtain ⟨⟨⟨⟨⟨⟨hok, o1⟩, o2⟩, o3⟩, o4⟩, o5⟩, o6⟩ := hok
    obtain ⟨hd, rfl⟩ := xdec_spec hok
    have o1 := Nat.eq_of_beq_eq_true o1
    have o2 := Nat.eq_of_beq_eq_true o2
    have o3 := Nat.eq_of_beq_eq_true o3
    subst o1
    subst o2
    subst o3
    obtain ⟨x, y, st, rfl, hrun1⟩ := xI2_s hrun
    clear hrun
    have hrun := hrun1
    clear hrun1
    obtain ⟨hj, hrun1⟩ := xN_s hrun
    clear hrun
    have hrun := hrun1
    clear hrun1
    have mo := xrun_mono fu _ _ _ _ hrun
    dsimp only [xgrid] at mo
    refine xw_grid hx hb hR hl hown (hts _ (xin_mem o4)) (hts _ (xin_mem o5)) (hts _ (xin_mem o6)) (fun z => hj (Or.inl z)) (fun z => hj (Or.inr (Or.inr (Or.inl z)))) (by omega) (by omega) (by omega) (by omega) hd (fun H1 locs1 r1 r2 => ?_)
    refine W.cs (cells' := h.2.1 + 1 + x.toNatClampNeg - N0) (slots' := h.2.2 + x.toNatClampNeg + x.toNatClampNeg * y.toNatClampNeg - S0) (by omega) (by omega) ?_
    exact go (_, _, _) _ hrun (by dsimp only [xgrid]; omega) (by dsimp only [xgrid]; omega) H1 locs1 ls r1 hL r2
  | new k =>
    have rest : (xdec M pc nx (.new k) 3 && (match (generalizing := false) cl[a]? with | some (C, _, _) => xin WL (hs.getD 0 0) (.classLink (xnm M).cls k C) && xin WL (hs.getD 1 0) (.instantiable C b) && xin WL (hs.getD 2 0) (.initialized C) | none => false)) = true → xrun V F G fu M (nx, lo, .ref h.2.1 :: st) (xnew h (xO' a (F a)) b) = some (o, hf) → W p l e R s m args below meth c H locs (h.2.1 - N0) (h.2.2 - S0) (xQ D cl H0 s below o hf N0 S0) (F0 m pc ls st) := by
      clear hrun hok
      intro hok hrun
      simp only [Bool.and_eq_true] at hok
      obtain ⟨hok, hok2⟩ := hok
      obtain ⟨hd, rfl⟩ := xdec_spec hok
      split at hok2
      · next C0 T0 N1 hc =>
        simp only [Bool.and_eq_true] at hok2
        have mo := xrun_mono fu _ _ _ _ hrun
        dsimp only [xnew] at mo
        obtain ⟨u1, u2, u3, u4⟩ := hU _ _ _ _ hc
        refine xw_new hx hb hts hK hR u1 (ty0 a) u2 hown hc (hts _ (xin_mem hok2.1.1)) (hts _ (xin_mem hok2.1.2)) (hts _ (xin_mem hok2.2)) u4 (by omega) (by omega) hd (fun H1 r1 => ?_)
        refine W.cs (cells' := h.2.1 + 1 - N0) (slots' := h.2.2 + b - S0) (by omega) (by omega) ?_
        exact go (_, _, _) _ hrun (Nat.le_succ_of_le hN) (Nat.le_trans hS (Nat.le_add_right _ _)) H1 locs ls r1 hL hl
      · cases hok2
    cases v with
    | null =>
      rcases st with _ | ⟨w, st⟩
      case cons => cases hrun
      replace hrun : some (Sum.inr (a, h.2.1), xnew h (xO' a []) b) = some (o, hf) := hrun
      replace hok : xtok WL HL cl SL NM M pc k a b hs = true := hok
      simp only [Option.some.injEq, Prod.mk.injEq] at hrun
      obtain ⟨rfl, rfl⟩ := hrun
      exact hthr M p e R s m args below meth c C pc k a b nx hs h N0 S0 hok hN hS hRc hRs H locs ls hR hL hl
    | int x => exact rest hok hrun
    | long x => exact rest hok hrun
    | float x => exact rest hok hrun
    | double x => exact rest hok hrun
    | ref x => exact rest hok hrun
    | retAddr x => exact rest hok hrun
  | invokestatic k =>
    have rest : (xdec M pc nx (.invokestatic k) 3 && Nat.blt a nG && xlink WL host (xnm M).cls (hs.getD 0 0) k (xnm (G a)) && xin WL (hs.getD 1 0) (.static (xnm (G a))) && xpar (G a) b && xroom M (G a)) = true → (xS (xpop b [] st) fun q => xcall G (xrun V F G fu) M pc nx lo a q.1 q.2 h) = some (o, hf) → W p l e R s m args below meth c H locs (h.2.1 - N0) (h.2.2 - S0) (xQ D cl H0 s below o hf N0 S0) (F0 m pc ls st) := by
      clear hrun hok
      intro hok hrun
      simp only [Bool.and_eq_true] at hok
      obtain ⟨⟨⟨⟨⟨hok, o1⟩, o2⟩, o3⟩, o4⟩, o5⟩ := hok
      obtain ⟨hd, rfl⟩ := xdec_spec hok
      obtain ⟨⟨as, rs⟩, hq, hrun1⟩ := xS_s hrun
      clear hrun
      have hrun := hrun1
      clear hrun1
      obtain ⟨hlen, rfl⟩ := xpop_nil hq
      have hz : a < nG := by simpa using o1
      exact x_call ih hG C hz hrun hd o5 hN hS hRc hRs hR hL hl (fun T hT X mk hmk => x_entS X hx hb hown hsf.1 (hG a hz).1 o2 (xin_mem o3) o4 hlen hmk hd)
    cases v with
    | retAddr x =>
      replace hrun : (xcopy st fun s sp d dp n' st => xcI (h.1 s) fun t n0 g => xcI (h.1 d) fun t' n1 g' => xB (Nat.beq t 0 && Nat.beq t' 0) (xN (sp < 0 ∨ dp < 0 ∨ n' < 0 ∨ n0 < sp.toNatClampNeg + n'.toNatClampNeg ∨ n1 < dp.toNatClampNeg + n'.toNatClampNeg) (xB (Nat.ble (xwt st) 8) (xrun V F G fu M (nx, lo, st) (xset h d (xA t' n1 (xint (va_cpy g g' sp.toNatClampNeg dp.toNatClampNeg n'.toNatClampNeg)))))))) = some (o, hf) := hrun
      replace hok : (xdec M pc nx (.invokestatic k) 3 && xin WL (hs.getD 0 0) (.methodLink (xnm M).cls k arraycopyName) && xin WL (hs.getD 1 0) (.native arraycopyName) && xin WL (hs.getD 2 0) (.static arraycopyName) && xin WL (hs.getD 3 0) (.initialized "java/lang/System") && Nat.ble 1 (xdp M) && Nat.ble (8 + (nativeFrameWords "java/lang/System" "arraycopy" 5 + 11)) (xlc M)) = true := hok
      simp only [Bool.and_eq_true] at hok
      obtain ⟨⟨⟨⟨⟨⟨hok, o1⟩, o2⟩, o3⟩, o4⟩, o5⟩, o6⟩ := hok
      obtain ⟨hd, rfl⟩ := xdec_spec hok
      obtain ⟨sa, sp, da, dp, n', st, rfl, hrun1⟩ := xcopy_s hrun
      clear hrun
      have hrun := hrun1
      clear hrun1
      obtain ⟨t, n0, g0, hs0, hrun1⟩ := xcI_s hrun
      clear hrun
      have hrun := hrun1
      clear hrun1
      obtain ⟨t', n1, g1, hd0, hrun1⟩ := xcI_s hrun
      clear hrun
      have hrun := hrun1
      clear hrun1
      obtain ⟨h1, hrun1⟩ := xB_s hrun
      clear hrun
      have hrun := hrun1
      clear hrun1
      obtain ⟨hj, hrun1⟩ := xN_s hrun
      clear hrun
      have hrun := hrun1
      clear hrun1
      obtain ⟨h2, hrun1⟩ := xB_s hrun
      clear hrun
      have hrun := hrun1
      clear hrun1
      simp only [Bool.and_eq_true] at h1
      have t1 := Nat.eq_of_beq_eq_true h1.1
      have t2 := Nat.eq_of_beq_eq_true h1.2
      subst t1
      subst t2
      have h2 := Nat.le_of_ble_eq_true h2
      have o5 := Nat.le_of_ble_eq_true o5
      have o6 := Nat.le_of_ble_eq_true o6
      exact xw_copy hx hb (hml.trans hL.1.symm) hown (hts _ (xin_mem o1)) (hts _ (xin_mem o2)) (hts _ (xin_mem o3)) (hts _ (xin_mem o4)) hR hl hs0 hd0 (fun z => hj (Or.inl z)) (fun z => hj (Or.inr (Or.inl z))) (fun z => hj (Or.inr (Or.inr (Or.inl z)))) (by omega) (by omega) (Nat.le_trans o5 hfr) (by rw [← xwt_eq]; omega) hd (fun H1 locs1 r1 r2 => go (_, _, _) _ hrun hN hS H1 locs1 ls r1 hL r2)
    | int x => exact rest hok hrun
    | long x => exact rest hok hrun
    | float x => exact rest hok hrun
    | double x => exact rest hok hrun
    | ref x => exact rest hok hrun
    | null => exact rest hok hrun
  | invokevirtual k =>
    replace hrun : (xS (xpop b [] st) fun q => match (generalizing := false) q.1 with | .ref o :: as => xvK v fun k => xcO (h.1 o) fun c _ => xB (Nat.beq c k) (xcall G (xrun V F G fu) M pc nx lo a (.ref o :: as) q.2 h) | _ => none) = some (o, hf) := hrun
    replace hok : (xdec M pc nx (.invokevirtual k) 3 && Nat.blt a nG && xlink WL host (xnm M).cls (hs.getD 0 0) k (xnm (G a)) && xin WL (hs.getD 1 0) (.instanceMethod (xnm (G a))) && xin WL (hs.getD 2 0) (.selects (xnm (G a)).cls (xnm (G a)) (xnm (G a))) && Nat.blt 0 b && xpar (G a) (b - 1) && xroom M (G a) && (match (generalizing := false) v with | .retAddr q => (match (generalizing := false) cl[q]? with | some (C, _, _) => decide (C = (xnm (G a)).cls) | none => false) | _ => false)) = true := hok
    simp only [Bool.and_eq_true] at hok
    obtain ⟨⟨⟨⟨⟨⟨⟨⟨hok, o1⟩, o2⟩, o3⟩, o4⟩, o5⟩, o6⟩, o7⟩, o8⟩ := hok
    obtain ⟨hd, rfl⟩ := xdec_spec hok
    obtain ⟨⟨as, rs⟩, hq, hrun1⟩ := xS_s hrun
    clear hrun
    have hrun := hrun1
    clear hrun1
    obtain ⟨hlen, rfl⟩ := xpop_nil hq
    have hz : a < nG := by simpa using o1
    have hb0 : 0 < b := by simpa using o5
    dsimp only at hrun
    split at hrun
    · next ob as' =>
      obtain ⟨kq, rfl, hrun1⟩ := xvK_s hrun
      clear hrun
      have hrun := hrun1
      clear hrun1
      obtain ⟨c0, fs, ho, hrun1⟩ := xcO_s hrun
      clear hrun
      have hrun := hrun1
      clear hrun1
      obtain ⟨h1, hrun1⟩ := xB_s hrun
      clear hrun
      have hrun := hrun1
      clear hrun1
      have h1 := Nat.eq_of_beq_eq_true h1
      subst h1
      dsimp only at o8
      split at o8
      · next C0 T0 N1 hc =>
        have o8 := of_decide_eq_true o8
        obtain ⟨r, hr, cellR, r1, r2, r3, -⟩ := (hR.2.2.2 ob _ ho).1
        cases hc.symm.trans hr
        have hcls : s.vm.findClass (xnm (G a)).cls = some cellR.cls := by rw [← o8, r2]; exact (hK.1 _ _ hc).2.1
        exact x_call ih hG C hz hrun hd o7 hN hS hRc hRs hR hL hl (fun T hT X mk hmk => x_entV X hx hb hown hsf.1 (hG a hz).1 o2 (xin_mem o3) (xin_mem o4) o6 (by simpa using (by simp only [List.length_cons] at hlen; omega)) hmk (by rw [hT]; exact r1) (by rw [r3]; rfl) hcls hd)
      · cases o8
    · cases hrun
  | invokespecial k =>
    have rest : (xdec M pc nx (.invokespecial k) 3 && Nat.blt a nG && xlink WL host (xnm M).cls (hs.getD 0 0) k (xnm (G a)) && xin WL (hs.getD 1 0) (.instanceMethod (xnm (G a))) && decide ((xnm (G a)).name = "<init>") && decide (xhs (G a) = []) && decide (xrt (G a) = none) && Nat.blt 0 b && xpar (G a) (b - 1) && xroom M (G a)) = true → (xS (xpop b [] st) fun q => match (generalizing := false) q.1 with | .ref o :: as => xcall G (xrun V F G fu) M pc nx lo a (.ref o :: as) q.2 h | _ => none) = some (o, hf) → W p l e R s m args below meth c H locs (h.2.1 - N0) (h.2.2 - S0) (xQ D cl H0 s below o hf N0 S0) (F0 m pc ls st) := by
      clear hrun hok
      intro hok hrun
      simp only [Bool.and_eq_true] at hok
      obtain ⟨⟨⟨⟨⟨⟨⟨⟨⟨hok, o1⟩, o2⟩, o3⟩, o4⟩, o4b⟩, o4c⟩, o5⟩, o6⟩, o7⟩ := hok
      obtain ⟨hd, rfl⟩ := xdec_spec hok
      obtain ⟨⟨as, rs⟩, hq, hrun1⟩ := xS_s hrun
      clear hrun
      have hrun := hrun1
      clear hrun1
      obtain ⟨hlen, rfl⟩ := xpop_nil hq
      have hz : a < nG := by simpa using o1
      have hb0 : 0 < b := by simpa using o5
      dsimp only at hrun
      split at hrun
      · next ob as' =>
        exact x_call ih hG C hz hrun hd o7 hN hS hRc hRs hR hL hl (fun T hT X mk hmk => x_entI X hx hb hown hsf.1 (hG a hz).1 o2 (xin_mem o3) (of_decide_eq_true o4) (of_decide_eq_true o4b) (of_decide_eq_true o4c) o6 (by simp only [List.length_cons] at hlen; omega) hmk hd)
      · cases hrun
    cases v with
    | null =>
      replace hrun : (xA1 st fun _ st => xB (Nat.ble (xwt st) 8) (xrun V F G fu M (nx, lo, st) h)) = some (o, hf) := hrun
      replace hok : (xdec M pc nx (.invokespecial k) 3 && xin WL (hs.getD 0 0) (.methodLink (xnm M).cls k Lib.objectInit) && xin WL (hs.getD 1 0) (.instanceMethod Lib.objectInit) && xin WL (hs.getD 2 0) (.code Lib.objectInit ⟨#[0xb1]⟩ 1 none) && Nat.ble 1 (xdp M) && Nat.ble 20 (xlc M)) = true := hok
      simp only [Bool.and_eq_true] at hok
      obtain ⟨⟨⟨⟨⟨hok, o1⟩, o2⟩, o3⟩, o4⟩, o5⟩ := hok
      obtain ⟨hd, rfl⟩ := xdec_spec hok
      obtain ⟨ob, st, rfl, hrun1⟩ := xA1_s hrun
      clear hrun
      have hrun := hrun1
      clear hrun1
      obtain ⟨h1, hrun1⟩ := xB_s hrun
      clear hrun
      have hrun := hrun1
      clear hrun1
      have h1 := Nat.le_of_ble_eq_true h1
      have o4 := Nat.le_of_ble_eq_true o4
      have o5 := Nat.le_of_ble_eq_true o5
      rw [xwt_eq] at h1
      exact W.objInit hx hb hown (hts _ (xin_mem o1)) (hts _ (xin_mem o2)) (hts _ (xin_mem o3)) rfl (by rw [hml]; exact hL.1) rfl hd (Nat.le_trans o4 hfr) (by show 2 * 0 + _ + 12 ≤ _; omega) (sm _ _ _ hrun ls hL)
    | int x => exact rest hok hrun
    | long x => exact rest hok hrun
    | float x => exact rest hok hrun
    | double x => exact rest hok hrun
    | ref x => exact rest hok hrun
    | retAddr x => exact rest hok hrun
  | _ => cases hrun
end
section
/-! a walk that begins anew where it stands; making and throwing -/
section XRB
variable {p : Program} {l : Launch} {e : Env} {R : Room} {s : State} {m : MethodId} {args : Array Value} {below : List Frame} {meth : Method} {c : Code} {T : State} {locs : List Loc} {cells slots : Nat}
theorem x_rebase (X : Stand p l e R s m args below meth c T locs cells slots) (hc : cells ≤ R.cells) (hs : slots ≤ R.slots) :
    Stand p l e { frames := R.frames, cells := R.cells - cells, slots := R.slots - slots, locals := R.locals } (T.setFrames (.invoking m args :: below)) m args below meth c T [] 0 0 := by
  obtain ⟨g₀, hfr⟩ := X.frames_eq
  have hcur : T.cur < T.threads.size := State.cur_lt_of_frames hfr
  have hfs : (T.setFrames (.invoking m args :: below)).frames = .invoking m args :: below := State.frames_setFrames _ hcur
  obtain ⟨th, hth, -⟩ := State.frames_cons hfr
  have hT : (T.setFrames (.invoking m args :: below)).setFrames T.frames = T := by rw [State.setFrames_setFrames, State.setFrames_self hth]
  have hmT : T.vm.method? m = some meth := X.method'
  refine ⟨X.admits, X.cas, X.clock, hfs, ?_, ?_, hmT, X.code, X.here, X.tail, State.WarmedH.refl _, (State.stackLimits_setFrames _ _ _).symm, (State.stackBytes_setFrames _ _).symm, ?_⟩
  · have hr := X.room
    have hcl := X.cellsAbove (n := R.cells - cells) (by omega)
    have hsl := X.slotsAbove (n := R.slots - slots) (by omega)
    have hbk := X.book
    have l1 := State.localsInUse_invoking X.frames X.method X.code
    have l2 := State.localsInUse_invoking (s := T.setFrames (.invoking m args :: below)) hfs hmT X.code
    simp only [State.hasRoom, Bool.and_eq_true, decide_eq_true_eq] at hr ⊢
    obtain ⟨⟨⟨⟨r1, r2⟩, r3⟩, r4⟩, r5⟩ := hr
    rw [X.frames, l1] at r2
    rw [l1] at r1
    rw [hfs, l2, State.stackLimits_setFrames, State.stackBytes_setFrames, X.limits, X.bytes]
    exact ⟨⟨⟨⟨r1, r2⟩, hcl⟩, hsl⟩, hbk⟩
  · have hh := X.hears
    have hal := X.warmed.alike
    cases below with
    | nil =>
      simp only [State.hears] at hh ⊢
      show (T.vm.method? m).any _ = true
      rw [hal.method?]; exact hh
    | cons f r =>
      cases f <;> simp only [State.hears, State.code?_eq] at hh ⊢ <;> first | rfl | (show _ = true; first | (rw [show (T.setFrames _).vm = T.vm from rfl, hal.method?]; exact hh) | exact hh)
  · obtain ⟨t2, ht2, -⟩ := State.frames_cons hfs
    have h1 := (State.sameButNew.refl (T.setFrames (.invoking m args :: below)) ht2).setFrames T.frames (by simpa [State.setFrames] using hcur)
    rw [hT] at h1
    exact h1
end XRB
theorem x_throws {l : Launch} {D : va_G} {cl : List vw_C} {H0 : Heap} {V : Nat → Value} {G : Nat → xM} {WL HL : List Cond} {SL : List (String × Nat × String)} {NM : List String} {EX : List Nat} {ty0 : Nat → Nat → FieldType} {sf : String × String × String} {host : String} {nG : Nat}
    (htr : ∀ e, l.admits e → e.platform.stackTraces = false) (hNM : ∀ x ∈ NM, Bundle.fit x = true) (hlen : NM.length = 2) : xThr l D cl H0 V G WL HL SL NM EX ty0 sf host nG := by
  intro M p e R s m args below meth c C pc k a b nx hs h N0 S0 hok hN hS hRc hRs H locs ls lo hR hL hl
  obtain ⟨hx, hb, hml, hrt, hlk, hnm, hmeth, htab, hsf, hfr, hlo, hgood⟩ := id C
  simp only [xtok, Bool.and_eq_true, decide_eq_true_eq] at hok
  obtain ⟨⟨⟨⟨⟨⟨⟨⟨⟨⟨d0, d3⟩, d4⟩, d6⟩, d9⟩, o1⟩, o2⟩, o3⟩, o4⟩, o5⟩, o6⟩ := hok
  have o2 := Nat.eq_of_beq_eq_true o2
  have o3 := Nat.le_of_ble_eq_true o3
  have o4 := Nat.le_of_ble_eq_true o4
  subst o2
  split at o5
  · next C0 T0 N1 hc =>
    simp only [Bool.and_eq_true] at o5
    obtain ⟨⟨⟨⟨⟨p1, p2⟩, p3⟩, p4⟩, p5⟩, p6⟩ := o5
    have p1 := Nat.eq_of_beq_eq_true p1
    subst p1
    obtain ⟨sq, sq1, sq2⟩ := List.any_eq_true.mp o6
    simp only [Bool.and_eq_true, decide_eq_true_eq] at sq2
    obtain ⟨sq2, sq3⟩ := sq2
    have sq3 := Nat.eq_of_beq_eq_true sq3
    obtain ⟨qa, hqa⟩ := hsf.2.2.1 sq sq1
    intro T hT X
    dsimp only [xnew] at hRc hRs
    have X0 := x_rebase X (by omega) (by omega)
    generalize hs' : T.setFrames (.invoking m args :: below) = s' at X0
    have hvm' : s'.vm = T.vm := by rw [← hs']; rfl
    have hhp' : s'.heap = H := by rw [← hs', ← hT]; rfl
    have hW' : s.WarmedH s'.vm := by rw [hvm']; exact X.warmed
    have hsf' : xSF D cl H0 WL HL SL EX V sf s' := hsf.moved hW'
    have hts' : ∀ w ∈ WL, w.before args s' = true := fun w hw => hsf.1 w hw args s' hW'
    have hown' : s'.vm.findClass (xnm M).cls = some m.cls := by rw [hW'.alike.findClass]; exact findClass_of_methodNamed hnm
    have hKn := (hsf'.2.2.2.2.1).1 a _ hc
    have hempty : ∀ x ∈ c.exceptionTable.toList, covers x (pc + 9) = false := by
      rw [o1] at htab
      have : c.exceptionTable.toList = [] := by simpa using htab
      rw [this]
      intro x hx'
      cases hx'
    have hw : W p l e { frames := R.frames, cells := R.cells - (h.2.1 - N0), slots := R.slots - (h.2.2 - S0), locals := R.locals } s' m args below meth c H [] 0 0 (fun U => U.status = .running ∧ Ended U below (.threw H.size) ∧ s'.WarmedH U.vm ∧ s'.sameButNew ({ U with vm := s'.vm } : State) [] 1 6 ∧ ∃ ce, U.heap[H.size]? = some ce ∧ s'.vm.findClass C0 = some ce.cls ∧ ce.vm = .none) (F0 m pc ls []) := by
      refine W.newcK hx hb hown' (hts' _ (xin_mem p2)) (hts' _ (xin_mem p3)) (hts' _ (xin_mem p4)) rfl d0 (by show 0 + 1 ≤ R.cells - (h.2.1 - N0); omega) (by show 0 + 6 ≤ R.slots - (h.2.2 - S0); omega) hKn.2.1 rfl fun H1 kC hkC e1 z1 o1 => ?_
      refine lv_dup hx hb d3 rfl ?_
      refine va_ldcS hx hb hown' (tx := sq.2.2) (q := qa) ?_ d4 ?_
      · have := hqa s' hW'
        rw [sq2, sq3] at this
        exact this
      · intro U hU XU
        have hloc : 2 * (F0 m (pc + 6) ls (.ref qa :: .ref H.size :: .ref H.size :: [])).monitorRoom + ((Value.ref H.size :: ([] : List Value)).map fun v => v.category).sum + (13 * (NM.length + 1) + 42) ≤ R.locals := by
          rw [hlen]
          show 2 * 0 + 1 + (13 * (2 + 1) + 42) ≤ R.locals
          omega
        obtain ⟨U', u1, u2, u3, u4, u5, ce, u6, u7⟩ := XU.ctorThrowS (names := NM) hx (htr e X.admits) hown' p5 hNM (fun w hw => by
          have := List.all_eq_true.mp p6 w hw
          simp only [Bool.or_eq_true, decide_eq_true_eq] at this
          rcases this with z | z
          · exact hts' w z
          · exact hsf.2.1 w z args s' hW' (fun q hq => by rw [hhp']; exact hR.2.2.1 q hq)) (fun x hx => by cases hx) hKn.2.1 hkC (a := H.size) (by rw [hU]; exact e1) (by rw [hhp']; exact Nat.le_refl _) (msg := .ref qa) rfl
          (g := F0 m (pc + 6) ls (.ref qa :: .ref H.size :: .ref H.size :: [])) rfl (by rw [hml]; exact hL.1) rfl rfl (rest := []) rfl (by rw [hb]; exact d6) (by rw [hb]; exact d9) hempty (by rw [hlen]; show 2 + 3 < R.frames; omega) hloc hlk
        exact ⟨U', u1, u2, u3, u4, u5, ce, u6, u7.cls, u7.vm⟩
    obtain ⟨t, t1, t2, t3, t4, t5, ce, t6, t7, t8⟩ := hw T hT X0
    refine ⟨t, t1, .threw H.size, t2, t3, ⟨by rw [hR.1], ?_⟩, ?_, State.WarmedH.trans X.warmed (State.WarmedH.of_rootvm hvm'.symm t4), locs, ?_, hl⟩
    · simp [xnew]
    · have hold : ∀ q : Nat, q < H.size → t.heap[q]? = H[q]? := by
        intro q hq
        obtain ⟨v1, v2, v3, v4, v5, v6⟩ := t5
        have hq0 : s'.heap[q]? = some H[q] := by rw [hhp']; exact Array.getElem?_eq_getElem hq
        obtain ⟨c', w1, w2, w3, w4⟩ := v6 q _ hq0
        have w1 : t.heap[q]? = some c' := w1
        have hsl : c'.slots = (H[q]).slots := Array.ext_getElem? (fun i => w4 i (by simp))
        rw [w1, w2, hsl, Array.getElem?_eq_getElem hq]
      have hsz : t.heap.size = H.size + 1 := by
        obtain ⟨v1, v2, v3, v4, v5, v6⟩ := t5
        have a1 : t.heap.size ≤ s'.heap.size + 1 := v3
        rw [hhp'] at a1
        have a2 := (Array.getElem?_eq_some_iff.mp t6).1
        omega
      refine hR.new ?_ hsz hold
      refine ⟨_, hc, ce, t6, ?_, t8, fun j hj => absurd hj (Nat.not_lt_zero _)⟩
      have := hKn.2.1
      exact Option.some.inj (t7.symm.trans this)
    · have hTs : T.sameButNew ({ t with vm := T.vm } : State) [] 1 6 := by
        obtain ⟨v1, v2, v3, v4, v5, v6⟩ := t5
        rw [hhp'] at v2 v3 v4 v5 v6
        have hv : s'.slotsUsed = T.slotsUsed := by rw [← hs']; rfl
        rw [hv] at v4
        rw [← hT] at v2 v3 v4 v5 v6
        refine ⟨?_, v2, v3, v4, v5, v6⟩
        rw [hvm', ← hs', State.setFrames_setFrames] at v1
        exact v1
      have := X.same.trans (hTs.setVm s.vm)
      rw [List.append_nil] at this
      have e1 : (xnew h (xO' a []) 6).2.1 - N0 = h.2.1 - N0 + 1 := by dsimp only [xnew]; omega
      have e2 : (xnew h (xO' a []) 6).2.2 - S0 = h.2.2 - S0 + 6 := by dsimp only [xnew]; omega
      rw [e1, e2]
      exact this
  · cases o5
end
