/-! what a table of instructions must keep, decided by a program -/
def xin (WL : List Cond) (k : Nat) (w : Cond) : Bool := decide (WL[k]? = some w)
theorem xin_mem {WL : List Cond} {k : Nat} {w : Cond} (h : xin WL k w = true) : w ∈ WL := List.mem_of_getElem? (of_decide_eq_true h)
def xdec (M : xM) (pc nx : Nat) (i : Instr) (k : Nat) : Bool := decide (decode (xby M) pc = .ok (i, k)) && Nat.beq nx (pc + k)
theorem xdec_spec {M : xM} {pc nx : Nat} {i : Instr} {k : Nat} (h : xdec M pc nx i k = true) : decode (xby M) pc = .ok (i, k) ∧ nx = pc + k := by
  simp only [xdec, Bool.and_eq_true] at h
  exact ⟨of_decide_eq_true h.1, Nat.eq_of_beq_eq_true h.2⟩
def xkind : Nat → FieldType → Bool
  | 0, .int => true
  | 1, .boolean => true
  | 2, .object _ => true
  | 2, .array _ => true
  | _, _ => false
def xnat (a : Nat) (t : ArrayType) : Bool := decide ((a = 0 ∧ newarray.typeOf t = .int) ∨ (a = 1 ∧ newarray.typeOf t = .long) ∨ (a = 2 ∧ newarray.typeOf t = .boolean))
def xlink (WL : List Cond) (host own : String) (p k : Nat) (y : MethodName) : Bool := xin WL p (.methodLink own k y) || xin WL p (.methodLinkNest own k y host)
def xpar (Z : xM) (b : Nat) : Bool := decide ((parseMethodDescriptor (xnm Z).desc).map (fun d => d.parameters.length) = some b)
def xroom (M Z : xM) : Bool := Nat.ble (xdp Z + 1) (xdp M) && Nat.ble (8 + (xml Z + 11) + xlc Z) (xlc M)
/-- a making and throwing: new, dup, ldc, the constructor, athrow -/
def xtok (WL HL : List Cond) (cl : List vw_C) (SL : List (String × Nat × String)) (NM : List String) (M : xM) (pc k a b : Nat) (hs : List Nat) : Bool :=
  decide (decode (xby M) pc = .ok (.new k, 3)) && decide (decode (xby M) (pc + 3) = .ok (.dup, 1)) && decide (decode (xby M) (pc + 4) = .ok (.ldc (hs.getD 0 0), 2)) && decide (decode (xby M) (pc + 6) = .ok (.invokespecial (hs.getD 1 0), 3)) && decide (decode (xby M) (pc + 9) = .ok (.athrow, 1)) &&
  decide (xhs M = []) && Nat.beq b 6 && Nat.ble 6 (xdp M) && Nat.ble 90 (xlc M) &&
  (match cl[a]? with
  | some (C, _, N) => Nat.beq N 0 && xin WL (hs.getD 2 0) (.classLink (xnm M).cls k C) && xin WL (hs.getD 3 0) (.instantiable C 6) && xin WL (hs.getD 4 0) (.initialized C) && Bundle.fit C &&
      (Bundle.ownAtoms (xnm M).cls (hs.getD 1 0) C NM).all (fun w => (decide (w ∈ WL)) || (decide (w ∈ HL)))
  | none => false) &&
  SL.any (fun q => decide (q.1 = (xnm M).cls) && Nat.beq q.2.1 (hs.getD 0 0))
def xok (WL HL : List Cond) (cl : List vw_C) (SL : List (String × Nat × String)) (NM : List String) (ty0 : Nat → Nat → FieldType) (sf : String × String × String) (host : String) (nG : Nat) (G : Nat → xM) (M : xM) (pc : Nat) (e : xI) : Bool := match e with
  | (i, nx, a, b, v, hs) => match i with
    | .iconst n => xdec M pc nx (.iconst n) 1 && decide (v = .int (Int32.ofInt n))
    | .bipush n => xdec M pc nx (.bipush n) 2 && decide (v = .int (Int8.ofInt n).toInt32)
    | .sipush n => xdec M pc nx (.sipush n) 3 && decide (v = .int (Int16.ofInt n).toInt32)
    | .lconst n => xdec M pc nx (.lconst n) 1 && decide (v = .long (Int64.ofNat n.val))
    | .ldc k => xdec M pc nx (.ldc k) 2 && (match v with | .int x => xin WL (hs.getD 0 0) (.constant (xnm M).cls k x) | _ => false)
    | .ldc_w k => xdec M pc nx (.ldc_w k) 3 && (match v with | .int x => xin WL (hs.getD 0 0) (.constant (xnm M).cls k x) | _ => false)
    | .ldc2_w k => xdec M pc nx (.ldc2_w k) 3 && (match v with | .long x => xin WL (hs.getD 0 0) (.constantLong (xnm M).cls k x) | _ => false)
    | .getstatic k => xdec M pc nx (.getstatic k) 3 && Nat.beq a 0 && xin WL (hs.getD 0 0) (.fieldLink (xnm M).cls k sf.1 sf.2.1 sf.2.2)
    | .iload k => xdec M pc nx (.iload k) 2 && Nat.beq a k
    | .iload_n k => xdec M pc nx (.iload_n k) 1 && Nat.beq a k.val
    | .lload k => xdec M pc nx (.lload k) 2 && Nat.beq a k
    | .lload_n k => xdec M pc nx (.lload_n k) 1 && Nat.beq a k.val
    | .aload k => xdec M pc nx (.aload k) 2 && Nat.beq a k
    | .aload_n k => xdec M pc nx (.aload_n k) 1 && Nat.beq a k.val
    | .istore k => xdec M pc nx (.istore k) 2 && Nat.beq a k
    | .istore_n k => xdec M pc nx (.istore_n k) 1 && Nat.beq a k.val
    | .lstore k => xdec M pc nx (.lstore k) 2 && Nat.beq a k
    | .lstore_n k => xdec M pc nx (.lstore_n k) 1 && Nat.beq a k.val
    | .astore k => xdec M pc nx (.astore k) 2 && Nat.beq a k
    | .astore_n k => xdec M pc nx (.astore_n k) 1 && Nat.beq a k.val
    | .iinc k n => xdec M pc nx (.iinc k n) 3 && Nat.beq a k && decide (v = .int (Int32.ofInt n))
    | .iadd => xdec M pc nx .iadd 1
    | .isub => xdec M pc nx .isub 1
    | .imul => xdec M pc nx .imul 1
    | .iand => xdec M pc nx .iand 1
    | .ior => xdec M pc nx .ior 1
    | .ixor => xdec M pc nx .ixor 1
    | .idiv => xdec M pc nx .idiv 1
    | .irem => xdec M pc nx .irem 1
    | .ineg => xdec M pc nx .ineg 1
    | .ishl => xdec M pc nx .ishl 1
    | .ishr => xdec M pc nx .ishr 1
    | .iushr => xdec M pc nx .iushr 1
    | .ladd => xdec M pc nx .ladd 1
    | .lsub => xdec M pc nx .lsub 1
    | .land => xdec M pc nx .land 1
    | .lor => xdec M pc nx .lor 1
    | .lshl => xdec M pc nx .lshl 1
    | .lushr => xdec M pc nx .lushr 1
    | .lcmp => xdec M pc nx .lcmp 1
    | .i2l => xdec M pc nx .i2l 1
    | .l2i => xdec M pc nx .l2i 1
    | .dup => xdec M pc nx .dup 1
    | .dup2 => xdec M pc nx .dup2 1
    | .dup_x1 => xdec M pc nx .dup_x1 1
    | .dup_x2 => xdec M pc nx .dup_x2 1
    | .pop => xdec M pc nx .pop 1
    | .ifCond c o => xdec M pc nx (.ifCond c o) 3 && decide ((pc : Int) + o = (a : Int))
    | .if_icmp c o => xdec M pc nx (.if_icmp c o) 3 && decide ((pc : Int) + o = (a : Int))
    | .goto o => xdec M pc nx (.goto o) 3 && decide ((pc : Int) + o = (a : Int))
    | .tableswitch d lo hi offs => decide (decode (xby M) pc = .ok (.tableswitch d lo hi offs, nx - pc)) && decide ((pc : Int) + d = (a : Int))
    | .ireturn => xdec M pc nx .ireturn 1
    | .lreturn => xdec M pc nx .lreturn 1
    | .areturn => xdec M pc nx .areturn 1
    | .return_ => xdec M pc nx .return_ 1
    | .getfield k => xdec M pc nx (.getfield k) 3 && (match cl[a]? with
      | some (_, T, N) => Nat.blt b N && xin WL (hs.getD 0 0) (.fieldLink (xnm M).cls k (T b).1 (T b).2.1 (T b).2.2.1)
      | none => false)
    | .putfield k => xdec M pc nx (.putfield k) 3 && (match cl[a]? with
      | some (_, T, N) => Nat.blt b N && xin WL (hs.getD 0 0) (.fieldLink (xnm M).cls k (T b).1 (T b).2.1 (T b).2.2.1) && (!(T b).2.2.2 || (decide ((xnm M).name = "<init>") && decide ((T b).1 = (xnm M).cls))) && (match v with | .retAddr q => xkind q (ty0 a b) | _ => false)
      | none => false)
    | .iaload => xdec M pc nx .iaload 1
    | .baload => xdec M pc nx .baload 1
    | .laload => xdec M pc nx .laload 1
    | .aaload => xdec M pc nx .aaload 1
    | .iastore => xdec M pc nx .iastore 1
    | .bastore => xdec M pc nx .bastore 1
    | .lastore => xdec M pc nx .lastore 1
    | .aastore => xdec M pc nx .aastore 1
    | .arraylength => xdec M pc nx .arraylength 1
    | .newarray t => xdec M pc nx (.newarray t) 2 && xnat a t && xin WL (hs.getD 0 0) (.arrayClass (newarray.typeOf t))
    | .anewarray k => xdec M pc nx (.anewarray k) 3 && Nat.ble 5 a && (match cl[a - 5]? with
      | some r => xin WL (hs.getD 0 0) (.classLink (xnm M).cls k r.1) && xin WL (hs.getD 1 0) (.arrayOver (.object r.1))
      | none => false)
    | .multianewarray k d => xdec M pc nx (.multianewarray k d) 4 && Nat.beq d 2 && Nat.beq a 4 && Nat.beq b 0 && xin WL (hs.getD 0 0) (.classLink (xnm M).cls k "[[I") && xin WL (hs.getD 1 0) (.arrayOver (.array .int)) && xin WL (hs.getD 2 0) (.arrayClass .int)
    | .new k => match v with
      | .null => xtok WL HL cl SL NM M pc k a b hs
      | _ => xdec M pc nx (.new k) 3 && (match cl[a]? with
        | some (C, _, _) => xin WL (hs.getD 0 0) (.classLink (xnm M).cls k C) && xin WL (hs.getD 1 0) (.instantiable C b) && xin WL (hs.getD 2 0) (.initialized C)
        | none => false)
    | .invokestatic k => match v with
      | .retAddr _ => xdec M pc nx (.invokestatic k) 3 && xin WL (hs.getD 0 0) (.methodLink (xnm M).cls k arraycopyName) && xin WL (hs.getD 1 0) (.native arraycopyName) && xin WL (hs.getD 2 0) (.static arraycopyName) && xin WL (hs.getD 3 0) (.initialized "java/lang/System") && Nat.ble 1 (xdp M) && Nat.ble (8 + (nativeFrameWords "java/lang/System" "arraycopy" 5 + 11)) (xlc M)
      | _ => xdec M pc nx (.invokestatic k) 3 && Nat.blt a nG && xlink WL host (xnm M).cls (hs.getD 0 0) k (xnm (G a)) && xin WL (hs.getD 1 0) (.static (xnm (G a))) && xpar (G a) b && xroom M (G a)
    | .invokevirtual k => xdec M pc nx (.invokevirtual k) 3 && Nat.blt a nG && xlink WL host (xnm M).cls (hs.getD 0 0) k (xnm (G a)) && xin WL (hs.getD 1 0) (.instanceMethod (xnm (G a))) && xin WL (hs.getD 2 0) (.selects (xnm (G a)).cls (xnm (G a)) (xnm (G a))) && Nat.blt 0 b && xpar (G a) (b - 1) && xroom M (G a) &&
        (match v with | .retAddr q => (match cl[q]? with | some (C, _, _) => decide (C = (xnm (G a)).cls) | none => false) | _ => false)
    | .invokespecial k => match v with
      | .null => xdec M pc nx (.invokespecial k) 3 && xin WL (hs.getD 0 0) (.methodLink (xnm M).cls k Lib.objectInit) && xin WL (hs.getD 1 0) (.instanceMethod Lib.objectInit) && xin WL (hs.getD 2 0) (.code Lib.objectInit ⟨#[0xb1]⟩ 1 none) && Nat.ble 1 (xdp M) && Nat.ble 20 (xlc M)
      | _ => xdec M pc nx (.invokespecial k) 3 && Nat.blt a nG && xlink WL host (xnm M).cls (hs.getD 0 0) k (xnm (G a)) && xin WL (hs.getD 1 0) (.instanceMethod (xnm (G a))) && decide ((xnm (G a)).name = "<init>") && decide (xhs (G a) = []) && decide (xrt (G a) = none) && Nat.blt 0 b && xpar (G a) (b - 1) && xroom M (G a)
    | _ => false
/-- a method's own words: its code, its holder -/
def xmok (WL : List Cond) (cl : List vw_C) (M : xM) (hs : List Nat) : Bool :=
  plainFor (xnm M) && decide ((xnm M).cls ≠ "java/lang/invoke/MethodHandle") && decide ((xnm M).cls ≠ "java/lang/invoke/VarHandle") &&
  (match xhs M with
  | [] => xin WL (hs.getD 0 0) (.code (xnm M) (xby M) (xml M) (xrt M))
  | _ => xin WL (hs.getD 0 0) (.codeWith (xnm M) (xby M) (xml M) (xrt M) ((xhs M).map (fun y => (y.1, y.2.1, y.2.2.1, y.2.2.2.1))))) &&
  xin WL (hs.getD 1 0) (.initialized (xnm M).cls) &&
  (xhs M).all (fun y => !(Nat.beq y.2.2.2.1 0) && (match cl[y.2.2.2.2]? with
    | some (C, _, _) => (WL.any (fun w => decide (w = .classLink (xnm M).cls y.2.2.2.1 C)))
    | none => false))
theorem xlk1_mem : ∀ (t : List (Nat × xI)) (pc : Nat) (e : xI), xlk1 t pc = some e → (pc, e) ∈ t
  | [], _, _, h => by simp [xlk1] at h
  | (k, x) :: t, pc, e, h => by
    simp only [xlk1] at h
    cases hb : Nat.beq k pc with
    | true =>
      rw [hb] at h
      simp only [cond_true, Option.some.injEq] at h
      rw [← h, Nat.eq_of_beq_eq_true hb]
      exact List.mem_cons_self
    | false =>
      rw [hb] at h
      exact List.mem_cons_of_mem _ (xlk1_mem t pc e h)
theorem xlk_mem : ∀ (t : List (Nat × List (Nat × xI))) (pc : Nat) (e : xI), xlk t pc = some e → ∃ c ∈ t, (pc, e) ∈ c.2
  | [], _, _, h => by simp [xlk] at h
  | (k, x) :: t, pc, e, h => by
    simp only [xlk] at h
    cases hb : Nat.blt pc k with
    | true =>
      rw [hb] at h
      exact ⟨(k, x), List.mem_cons_self, xlk1_mem x pc e h⟩
    | false =>
      rw [hb] at h
      obtain ⟨c, h1, h2⟩ := xlk_mem t pc e h
      exact ⟨c, List.mem_cons_of_mem _ h1, h2⟩
theorem xall {P : Nat → xI → Bool} {t : List (Nat × List (Nat × xI))} (h : t.all (fun c => c.2.all (fun q => P q.1 q.2)) = true) : ∀ (pc : Nat) (e : xI), xlk t pc = some e → P pc e = true := by
  intro pc e he
  obtain ⟨c, h1, h2⟩ := xlk_mem t pc e he
  exact List.all_eq_true.mp (List.all_eq_true.mp h c h1) (pc, e) h2
