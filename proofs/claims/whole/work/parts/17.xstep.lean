/-! soundness: the step -/
set_option maxHeartbeats 4000000 in
set_option maxRecDepth 100000 in
theorem x_step {l : Launch} {D : va_G} {cl : List vw_C} {H0 : Heap} {V : Nat → Value} {F : Nat → List Value} {G : Nat → xM} {WL HL : List Cond} {SL : List (String × Nat × String)} {NM : List String} {EX : List Nat} {ty0 : Nat → Nat → FieldType} {sf : String × String × String} {host : String} {nG : Nat}
    (hU : ∀ (ci : Nat) (C : String) (T : u_T) (N : Nat), cl[ci]? = some (C, T, N) → (∀ w ∈ u_ws C T N, w ∈ WL) ∧ (∀ k, k < N → parseFieldDescriptor (T k).2.2.1 = some (ty0 ci k)) ∧ (∀ a, a < N → ∀ b, b < N → a ≠ b → (T a).2.1 ≠ (T b).2.1) ∧ (∀ j, j < N → defaultValue (ty0 ci j) = vp_V (F ci) j))
    (hG : ∀ z, z < nG → xgood WL HL cl SL NM EX ty0 sf host nG G (G z)) (hthr : xThr l D cl H0 V G WL HL SL NM EX ty0 sf host nG)
    {fu : Nat} (ih : xSnd l D cl H0 V F G WL HL SL NM EX ty0 sf host nG fu) : xSnd l D cl H0 V F G WL HL SL NM EX ty0 sf host nG (fu + 1) := by
  intro M f h hf o hrun p e R s m args below meth c C N0 S0 hN hS hRc hRs H locs ls hR hL hl
  obtain ⟨hx, hb, hml, hrt, hlk, hnm, hmeth, htab, hsf, hfr, hlo, hgood⟩ := id C
  obtain ⟨pc, lo, st⟩ := f
  replace hL : xl ls (xml M) lo := hL
  show W p l e R s m args below meth c H locs (h.2.1 - N0) (h.2.2 - S0) (xQ D cl H0 s below o hf N0 S0) (F0 m pc ls st)
  replace hrun : xS (xcd M pc) (fun q => xop V F G (xrun V F G fu) M (pc, lo, st) h q.1 q.2.1 q.2.2.1 q.2.2.2.1 q.2.2.2.2.1) = some (o, hf) := hrun
  have hts : ∀ w ∈ WL, w.before args s = true := fun w hw => hsf.1 w hw args s (State.WarmedH.refl s)
  have hown : s.vm.findClass (xnm M).cls = some m.cls := findClass_of_methodNamed hnm
  have hK := hsf.2.2.2.2.1
  have go : ∀ (f' : xF) (h' : xH), xrun V F G fu M f' h' = some (o, hf) → N0 ≤ h'.2.1 → S0 ≤ h'.2.2 → ∀ (H' : Heap) (locs' : List Loc) (ls' : Array Slot), xHR D cl H0 s h' H' → xl ls' (xml M) f'.2.1 → (∀ q ∈ locs', H0.size ≤ q.base) →
      W p l e R s m args below meth c H' locs' (h'.2.1 - N0) (h'.2.2 - S0) (xQ D cl H0 s below o hf N0 S0) (F0 m f'.1 ls' f'.2.2) :=
    fun f' h' hr a b H' locs' ls' c1 c2 c3 => ih M f' h' hf o hr p e R s m args below meth c C N0 S0 a b hRc hRs H' locs' ls' c1 c2 c3
  have sm : ∀ (pc' : Nat) (lo' : List (Option Value)) (st' : List Value), xrun V F G fu M (pc', lo', st') h = some (o, hf) → ∀ (ls' : Array Slot), xl ls' (xml M) lo' →
      W p l e R s m args below meth c H locs (h.2.1 - N0) (h.2.2 - S0) (xQ D cl H0 s below o hf N0 S0) (F0 m pc' ls' st') := fun pc' lo' st' hr ls' hl' => go (pc', lo', st') h hr hN hS H locs ls' hR hl' hl
  obtain ⟨ent, hcd, hrun1⟩ := xS_s hrun
  clear hrun
  have hrun := hrun1
  clear hrun1
  have hok := hgood.2.2 pc ent hcd
  obtain ⟨i, nx, a, b, v, hs⟩ := ent
  dsimp only at hrun
  cases i with
  | iconst k =>
    replace hrun : (xrun V F G fu M (nx, lo, v :: st) h) = some (o, hf) := hrun
    replace hok : (xdec M pc nx (.iconst k) 1 && decide (v = .int (Int32.ofInt k))) = true := hok
    simp only [Bool.and_eq_true] at hok
    obtain ⟨hok, hok2⟩ := hok
    obtain ⟨hd, rfl⟩ := xdec_spec hok
    have hok2 := of_decide_eq_true hok2
    subst hok2
    exact lv_iconst hx hb hd rfl (sm _ _ _ hrun ls hL)
  | bipush k =>
    replace hrun : (xrun V F G fu M (nx, lo, v :: st) h) = some (o, hf) := hrun
    replace hok : (xdec M pc nx (.bipush k) 2 && decide (v = .int ((Int8.ofInt k).toInt32))) = true := hok
    simp only [Bool.and_eq_true] at hok
    obtain ⟨hok, hok2⟩ := hok
    obtain ⟨hd, rfl⟩ := xdec_spec hok
    have hok2 := of_decide_eq_true hok2
    subst hok2
    exact lv_bipush hx hb hd rfl (sm _ _ _ hrun ls hL)
  | sipush k =>
    replace hrun : (xrun V F G fu M (nx, lo, v :: st) h) = some (o, hf) := hrun
    replace hok : (xdec M pc nx (.sipush k) 3 && decide (v = .int ((Int16.ofInt k).toInt32))) = true := hok
    simp only [Bool.and_eq_true] at hok
    obtain ⟨hok, hok2⟩ := hok
    obtain ⟨hd, rfl⟩ := xdec_spec hok
    have hok2 := of_decide_eq_true hok2
    subst hok2
    exact lv_sipush hx hb hd rfl (sm _ _ _ hrun ls hL)
  | lconst k =>
    replace hrun : (xrun V F G fu M (nx, lo, v :: st) h) = some (o, hf) := hrun
    replace hok : (xdec M pc nx (.lconst k) 1 && decide (v = .long (Int64.ofNat k.val))) = true := hok
    simp only [Bool.and_eq_true] at hok
    obtain ⟨hok, hok2⟩ := hok
    obtain ⟨hd, rfl⟩ := xdec_spec hok
    have hok2 := of_decide_eq_true hok2
    subst hok2
    exact lv_lconst hx hb hd rfl (sm _ _ _ hrun ls hL)
  | ldc k =>
    replace hrun : (xrun V F G fu M (nx, lo, v :: st) h) = some (o, hf) := hrun
    replace hok : (xdec M pc nx (.ldc k) 2 && (match (generalizing := false) v with | .int x => xin WL (hs.getD 0 0) (.constant (xnm M).cls k x) | _ => false)) = true := hok
    simp only [Bool.and_eq_true] at hok
    obtain ⟨hok, hok2⟩ := hok
    obtain ⟨hd, rfl⟩ := xdec_spec hok
    split at hok2
    · next x =>
      exact W.ldc hx hb hown (hts _ (xin_mem hok2)) rfl hd (sm _ _ _ hrun ls hL)
    · cases hok2
  | ldc_w k =>
    replace hrun : (xrun V F G fu M (nx, lo, v :: st) h) = some (o, hf) := hrun
    replace hok : (xdec M pc nx (.ldc_w k) 3 && (match (generalizing := false) v with | .int x => xin WL (hs.getD 0 0) (.constant (xnm M).cls k x) | _ => false)) = true := hok
    simp only [Bool.and_eq_true] at hok
    obtain ⟨hok, hok2⟩ := hok
    obtain ⟨hd, rfl⟩ := xdec_spec hok
    split at hok2
    · next x =>
      exact lv_ldcw hx hb hown (hts _ (xin_mem hok2)) hd (sm _ _ _ hrun ls hL)
    · cases hok2
  | ldc2_w k =>
    replace hrun : (xrun V F G fu M (nx, lo, v :: st) h) = some (o, hf) := hrun
    replace hok : (xdec M pc nx (.ldc2_w k) 3 && (match (generalizing := false) v with | .long x => xin WL (hs.getD 0 0) (.constantLong (xnm M).cls k x) | _ => false)) = true := hok
    simp only [Bool.and_eq_true] at hok
    obtain ⟨hok, hok2⟩ := hok
    obtain ⟨hd, rfl⟩ := xdec_spec hok
    split at hok2
    · next x =>
      exact W.ldc2 hx hb hown (hts _ (xin_mem hok2)) rfl hd (sm _ _ _ hrun ls hL)
    · cases hok2
  | getstatic k =>
    replace hrun : (xrun V F G fu M (nx, lo, V a :: st) h) = some (o, hf) := hrun
    replace hok : (xdec M pc nx (.getstatic k) 3 && Nat.beq a 0 && xin WL (hs.getD 0 0) (.fieldLink (xnm M).cls k sf.1 sf.2.1 sf.2.2)) = true := hok
    simp only [Bool.and_eq_true] at hok
    obtain ⟨⟨hok, hok2⟩, hok3⟩ := hok
    obtain ⟨hd, rfl⟩ := xdec_spec hok
    have hok2 := Nat.eq_of_beq_eq_true hok2
    subst hok2
    obtain ⟨cf, kf, fi, fl, za, zc, z1, z2, z3, z4, z5, z6, z7, z8⟩ := hsf.2.2.2.2.2
    have hza : H[za]? = some zc := by rw [hR.2.2.1 za (by omega)]; exact z5
    exact W.gets hx hb hown (hts _ (xin_mem hok3)) z1 z2 z3 z4 hza (fun q => by rw [q] at z6; cases z6) z7 rfl hd (sm _ _ _ hrun ls hL)
  | iload k =>
    replace hrun : (xvI (xget lo a) fun x => xrun V F G fu M (nx, lo, .int x :: st) h) = some (o, hf) := hrun
    replace hok : (xdec M pc nx (.iload k) 2 && Nat.beq a k) = true := hok
    simp only [Bool.and_eq_true] at hok
    obtain ⟨hok, hok2⟩ := hok
    obtain ⟨hd, rfl⟩ := xdec_spec hok
    have hok2 := Nat.eq_of_beq_eq_true hok2
    obtain ⟨x, hv, hrun1⟩ := xvI_s hrun
    clear hrun
    have hrun := hrun1
    clear hrun1
    subst hok2
    exact lv_iload hx hb hd (hL.at hv) (sm _ _ _ hrun ls hL)
  | iload_n k =>
    replace hrun : (xvI (xget lo a) fun x => xrun V F G fu M (nx, lo, .int x :: st) h) = some (o, hf) := hrun
    replace hok : (xdec M pc nx (.iload_n k) 1 && Nat.beq a k.val) = true := hok
    simp only [Bool.and_eq_true] at hok
    obtain ⟨hok, hok2⟩ := hok
    obtain ⟨hd, rfl⟩ := xdec_spec hok
    have hok2 := Nat.eq_of_beq_eq_true hok2
    obtain ⟨x, hv, hrun1⟩ := xvI_s hrun
    clear hrun
    have hrun := hrun1
    clear hrun1
    exact lv_iload_n hx hb hd hok2.symm (hL.at hv) (sm _ _ _ hrun ls hL)
  | lload k =>
    replace hrun : (xvL (xget lo a) fun x => xrun V F G fu M (nx, lo, .long x :: st) h) = some (o, hf) := hrun
    replace hok : (xdec M pc nx (.lload k) 2 && Nat.beq a k) = true := hok
    simp only [Bool.and_eq_true] at hok
    obtain ⟨hok, hok2⟩ := hok
    obtain ⟨hd, rfl⟩ := xdec_spec hok
    have hok2 := Nat.eq_of_beq_eq_true hok2
    obtain ⟨x, hv, hrun1⟩ := xvL_s hrun
    clear hrun
    have hrun := hrun1
    clear hrun1
    subst hok2
    exact lv_lload hx hb hd (hL.at hv) (sm _ _ _ hrun ls hL)
  | lload_n k =>
    replace hrun : (xvL (xget lo a) fun x => xrun V F G fu M (nx, lo, .long x :: st) h) = some (o, hf) := hrun
    replace hok : (xdec M pc nx (.lload_n k) 1 && Nat.beq a k.val) = true := hok
    simp only [Bool.and_eq_true] at hok
    obtain ⟨hok, hok2⟩ := hok
    obtain ⟨hd, rfl⟩ := xdec_spec hok
    have hok2 := Nat.eq_of_beq_eq_true hok2
    obtain ⟨x, hv, hrun1⟩ := xvL_s hrun
    clear hrun
    have hrun := hrun1
    clear hrun1
    exact lv_lload_n hx hb hd hok2.symm (hL.at hv) (sm _ _ _ hrun ls hL)
  | aload k =>
    replace hrun : (xvA (xget lo a) fun x => xrun V F G fu M (nx, lo, .ref x :: st) h) = some (o, hf) := hrun
    replace hok : (xdec M pc nx (.aload k) 2 && Nat.beq a k) = true := hok
    simp only [Bool.and_eq_true] at hok
    obtain ⟨hok, hok2⟩ := hok
    obtain ⟨hd, rfl⟩ := xdec_spec hok
    have hok2 := Nat.eq_of_beq_eq_true hok2
    obtain ⟨x, hv, hrun1⟩ := xvA_s hrun
    clear hrun
    have hrun := hrun1
    clear hrun1
    subst hok2
    exact lv_aload hx hb hd (hL.at hv) (sm _ _ _ hrun ls hL)
  | aload_n k =>
    replace hrun : (xvA (xget lo a) fun x => xrun V F G fu M (nx, lo, .ref x :: st) h) = some (o, hf) := hrun
    replace hok : (xdec M pc nx (.aload_n k) 1 && Nat.beq a k.val) = true := hok
    simp only [Bool.and_eq_true] at hok
    obtain ⟨hok, hok2⟩ := hok
    obtain ⟨hd, rfl⟩ := xdec_spec hok
    have hok2 := Nat.eq_of_beq_eq_true hok2
    obtain ⟨x, hv, hrun1⟩ := xvA_s hrun
    clear hrun
    have hrun := hrun1
    clear hrun1
    exact lv_aload_n hx hb hd hok2.symm (hL.at hv) (sm _ _ _ hrun ls hL)
  | istore k =>
    replace hrun : (xI1 st fun x st => xS (xst1 (.int x) a lo) fun l => xrun V F G fu M (nx, l, st) h) = some (o, hf) := hrun
    replace hok : (xdec M pc nx (.istore k) 2 && Nat.beq a k) = true := hok
    simp only [Bool.and_eq_true] at hok
    obtain ⟨hok, hok2⟩ := hok
    obtain ⟨hd, rfl⟩ := xdec_spec hok
    have hok2 := Nat.eq_of_beq_eq_true hok2
    obtain ⟨x, st, rfl, hrun1⟩ := xI1_s hrun
    clear hrun
    have hrun := hrun1
    clear hrun1
    obtain ⟨lo', hst, hrun1⟩ := xS_s hrun
    clear hrun
    have hrun := hrun1
    clear hrun1
    have hlt := (xst1_spec _ _ _ _ hst).1
    rw [hL.2.1] at hlt
    subst hok2
    exact lv_istore hx hb hd hL.has hlt rfl (fun ls' h' => sm _ _ _ hrun ls' (hL.st1 hst h'))
  | istore_n k =>
    replace hrun : (xI1 st fun x st => xS (xst1 (.int x) a lo) fun l => xrun V F G fu M (nx, l, st) h) = some (o, hf) := hrun
    replace hok : (xdec M pc nx (.istore_n k) 1 && Nat.beq a k.val) = true := hok
    simp only [Bool.and_eq_true] at hok
    obtain ⟨hok, hok2⟩ := hok
    obtain ⟨hd, rfl⟩ := xdec_spec hok
    have hok2 := Nat.eq_of_beq_eq_true hok2
    obtain ⟨x, st, rfl, hrun1⟩ := xI1_s hrun
    clear hrun
    have hrun := hrun1
    clear hrun1
    obtain ⟨lo', hst, hrun1⟩ := xS_s hrun
    clear hrun
    have hrun := hrun1
    clear hrun1
    have hlt := (xst1_spec _ _ _ _ hst).1
    rw [hL.2.1] at hlt
    exact lv_istore_n hx hb hd hok2.symm hL.has hlt rfl (fun ls' h' => sm _ _ _ hrun ls' (hL.st1 hst h'))
  | astore k =>
    replace hrun : (xA1 st fun x st => xS (xst1 (.ref x) a lo) fun l => xrun V F G fu M (nx, l, st) h) = some (o, hf) := hrun
    replace hok : (xdec M pc nx (.astore k) 2 && Nat.beq a k) = true := hok
    simp only [Bool.and_eq_true] at hok
    obtain ⟨hok, hok2⟩ := hok
    obtain ⟨hd, rfl⟩ := xdec_spec hok
    have hok2 := Nat.eq_of_beq_eq_true hok2
    obtain ⟨x, st, rfl, hrun1⟩ := xA1_s hrun
    clear hrun
    have hrun := hrun1
    clear hrun1
    obtain ⟨lo', hst, hrun1⟩ := xS_s hrun
    clear hrun
    have hrun := hrun1
    clear hrun1
    have hlt := (xst1_spec _ _ _ _ hst).1
    rw [hL.2.1] at hlt
    subst hok2
    exact lv_astore hx hb hd hL.has hlt rfl (fun ls' h' => sm _ _ _ hrun ls' (hL.st1 hst h'))
  | astore_n k =>
    replace hrun : (xA1 st fun x st => xS (xst1 (.ref x) a lo) fun l => xrun V F G fu M (nx, l, st) h) = some (o, hf) := hrun
    replace hok : (xdec M pc nx (.astore_n k) 1 && Nat.beq a k.val) = true := hok
    simp only [Bool.and_eq_true] at hok
    obtain ⟨hok, hok2⟩ := hok
    obtain ⟨hd, rfl⟩ := xdec_spec hok
    have hok2 := Nat.eq_of_beq_eq_true hok2
    obtain ⟨x, st, rfl, hrun1⟩ := xA1_s hrun
    clear hrun
    have hrun := hrun1
    clear hrun1
    obtain ⟨lo', hst, hrun1⟩ := xS_s hrun
    clear hrun
    have hrun := hrun1
    clear hrun1
    have hlt := (xst1_spec _ _ _ _ hst).1
    rw [hL.2.1] at hlt
    exact lv_astore_n hx hb hd hok2.symm hL.has hlt rfl (fun ls' h' => sm _ _ _ hrun ls' (hL.st1 hst h'))
  | lstore k =>
    replace hrun : (xL1 st fun x st => xS (xst2 (.long x) a lo) fun l => xrun V F G fu M (nx, l, st) h) = some (o, hf) := hrun
    replace hok : (xdec M pc nx (.lstore k) 2 && Nat.beq a k) = true := hok
    simp only [Bool.and_eq_true] at hok
    obtain ⟨hok, hok2⟩ := hok
    obtain ⟨hd, rfl⟩ := xdec_spec hok
    have hok2 := Nat.eq_of_beq_eq_true hok2
    obtain ⟨x, st, rfl, hrun1⟩ := xL1_s hrun
    clear hrun
    have hrun := hrun1
    clear hrun1
    obtain ⟨lo', hst, hrun1⟩ := xS_s hrun
    clear hrun
    have hrun := hrun1
    clear hrun1
    have hlt := (xst2_spec _ _ _ _ hst).1
    rw [hL.2.1] at hlt
    subst hok2
    exact lv_lstore hx hb hd hL.has hlt rfl (fun ls' h' => sm _ _ _ hrun ls' (hL.st2 hst h'))
  | lstore_n k =>
    replace hrun : (xL1 st fun x st => xS (xst2 (.long x) a lo) fun l => xrun V F G fu M (nx, l, st) h) = some (o, hf) := hrun
    replace hok : (xdec M pc nx (.lstore_n k) 1 && Nat.beq a k.val) = true := hok
    simp only [Bool.and_eq_true] at hok
    obtain ⟨hok, hok2⟩ := hok
    obtain ⟨hd, rfl⟩ := xdec_spec hok
    have hok2 := Nat.eq_of_beq_eq_true hok2
    obtain ⟨x, st, rfl, hrun1⟩ := xL1_s hrun
    clear hrun
    have hrun := hrun1
    clear hrun1
    obtain ⟨lo', hst, hrun1⟩ := xS_s hrun
    clear hrun
    have hrun := hrun1
    clear hrun1
    have hlt := (xst2_spec _ _ _ _ hst).1
    rw [hL.2.1] at hlt
    exact lv_lstore_n hx hb hd hok2.symm hL.has hlt rfl (fun ls' h' => sm _ _ _ hrun ls' (hL.st2 hst h'))
  | iinc k kn =>
    replace hrun : (xvI (xget lo a) fun x => xvN v fun c => xS (xst1 (.int (x + c)) a lo) fun l => xrun V F G fu M (nx, l, st) h) = some (o, hf) := hrun
    replace hok : (xdec M pc nx (.iinc k kn) 3 && Nat.beq a k && decide (v = .int (Int32.ofInt kn))) = true := hok
    simp only [Bool.and_eq_true] at hok
    obtain ⟨⟨hok, hok2⟩, hok3⟩ := hok
    obtain ⟨hd, rfl⟩ := xdec_spec hok
    have hok2 := Nat.eq_of_beq_eq_true hok2
    have hok3 := of_decide_eq_true hok3
    subst hok2
    subst hok3
    obtain ⟨x, hv, hrun1⟩ := xvI_s hrun
    clear hrun
    have hrun := hrun1
    clear hrun1
    obtain ⟨cn, hcn, hrun1⟩ := xvN_s hrun
    clear hrun
    have hrun := hrun1
    clear hrun1
    cases hcn
    obtain ⟨lo', hst, hrun1⟩ := xS_s hrun
    clear hrun
    have hrun := hrun1
    clear hrun1
    have hlt := (xst1_spec _ _ _ _ hst).1
    rw [hL.2.1] at hlt
    obtain ⟨kq, hkq⟩ := List.getElem?_of_mem (xal_mem (q := (a, Value.int x)).mpr hv)
    exact lv_iinc hx hb hd hL.has hkq rfl hlt rfl (fun ls' h' => sm _ _ _ hrun ls' (hL.st1 hst h'))
  | iadd =>
    replace hrun : (xI2 st fun x y st => xrun V F G fu M (nx, lo, .int (x + y) :: st) h) = some (o, hf) := hrun
    replace hok : (xdec M pc nx .iadd 1) = true := hok
    obtain ⟨hd, rfl⟩ := xdec_spec hok
    obtain ⟨x, y, st, rfl, hrun1⟩ := xI2_s hrun
    clear hrun
    have hrun := hrun1
    clear hrun1
    exact lv_iadd hx hb hd (sm _ _ _ hrun ls hL)
  | isub =>
    replace hrun : (xI2 st fun x y st => xrun V F G fu M (nx, lo, .int (x - y) :: st) h) = some (o, hf) := hrun
    replace hok : (xdec M pc nx .isub 1) = true := hok
    obtain ⟨hd, rfl⟩ := xdec_spec hok
    obtain ⟨x, y, st, rfl, hrun1⟩ := xI2_s hrun
    clear hrun
    have hrun := hrun1
    clear hrun1
    exact lv_isub hx hb hd (sm _ _ _ hrun ls hL)
  | imul =>
    replace hrun : (xI2 st fun x y st => xrun V F G fu M (nx, lo, .int (x * y) :: st) h) = some (o, hf) := hrun
    replace hok : (xdec M pc nx .imul 1) = true := hok
    obtain ⟨hd, rfl⟩ := xdec_spec hok
    obtain ⟨x, y, st, rfl, hrun1⟩ := xI2_s hrun
    clear hrun
    have hrun := hrun1
    clear hrun1
    exact lv_imul hx hb hd (sm _ _ _ hrun ls hL)
  | iand =>
    replace hrun : (xI2 st fun x y st => xrun V F G fu M (nx, lo, .int (x &&& y) :: st) h) = some (o, hf) := hrun
    replace hok : (xdec M pc nx .iand 1) = true := hok
    obtain ⟨hd, rfl⟩ := xdec_spec hok
    obtain ⟨x, y, st, rfl, hrun1⟩ := xI2_s hrun
    clear hrun
    have hrun := hrun1
    clear hrun1
    exact lv_iand hx hb hd (sm _ _ _ hrun ls hL)
  | ior =>
    replace hrun : (xI2 st fun x y st => xrun V F G fu M (nx, lo, .int (x ||| y) :: st) h) = some (o, hf) := hrun
    replace hok : (xdec M pc nx .ior 1) = true := hok
    obtain ⟨hd, rfl⟩ := xdec_spec hok
    obtain ⟨x, y, st, rfl, hrun1⟩ := xI2_s hrun
    clear hrun
    have hrun := hrun1
    clear hrun1
    exact lv_ior hx hb hd (sm _ _ _ hrun ls hL)
  | ixor =>
    replace hrun : (xI2 st fun x y st => xrun V F G fu M (nx, lo, .int (x ^^^ y) :: st) h) = some (o, hf) := hrun
    replace hok : (xdec M pc nx .ixor 1) = true := hok
    obtain ⟨hd, rfl⟩ := xdec_spec hok
    obtain ⟨x, y, st, rfl, hrun1⟩ := xI2_s hrun
    clear hrun
    have hrun := hrun1
    clear hrun1
    exact lv_ixor hx hb hd (sm _ _ _ hrun ls hL)
  | ishl =>
    replace hrun : (xI2 st fun x y st => xrun V F G fu M (nx, lo, .int (x <<< (y &&& 31)) :: st) h) = some (o, hf) := hrun
    replace hok : (xdec M pc nx .ishl 1) = true := hok
    obtain ⟨hd, rfl⟩ := xdec_spec hok
    obtain ⟨x, y, st, rfl, hrun1⟩ := xI2_s hrun
    clear hrun
    have hrun := hrun1
    clear hrun1
    exact lv_ishl hx hb hd (sm _ _ _ hrun ls hL)
  | ishr =>
    replace hrun : (xI2 st fun x y st => xrun V F G fu M (nx, lo, .int (x >>> (y &&& 31)) :: st) h) = some (o, hf) := hrun
    replace hok : (xdec M pc nx .ishr 1) = true := hok
    obtain ⟨hd, rfl⟩ := xdec_spec hok
    obtain ⟨x, y, st, rfl, hrun1⟩ := xI2_s hrun
    clear hrun
    have hrun := hrun1
    clear hrun1
    exact lv_ishr hx hb hd (sm _ _ _ hrun ls hL)
  | iushr =>
    replace hrun : (xI2 st fun x y st => xrun V F G fu M (nx, lo, .int ((x.toUInt32 >>> (y.toUInt32 &&& Int32.toUInt32 31)).toInt32) :: st) h) = some (o, hf) := hrun
    replace hok : (xdec M pc nx .iushr 1) = true := hok
    obtain ⟨hd, rfl⟩ := xdec_spec hok
    obtain ⟨x, y, st, rfl, hrun1⟩ := xI2_s hrun
    clear hrun
    have hrun := hrun1
    clear hrun1
    exact lv_iushr hx hb hd rfl (sm _ _ _ hrun ls hL)
  | idiv =>
    replace hrun : (xI2 st fun x y st => xN (y = 0) (xrun V F G fu M (nx, lo, .int (x / y) :: st) h)) = some (o, hf) := hrun
    replace hok : (xdec M pc nx .idiv 1) = true := hok
    obtain ⟨hd, rfl⟩ := xdec_spec hok
    obtain ⟨x, y, st, rfl, hrun1⟩ := xI2_s hrun
    clear hrun
    have hrun := hrun1
    clear hrun1
    obtain ⟨hy, hrun1⟩ := xN_s hrun
    clear hrun
    have hrun := hrun1
    clear hrun1
    exact lv_idiv hx hb hd hy (sm _ _ _ hrun ls hL)
  | irem =>
    replace hrun : (xI2 st fun x y st => xN (y = 0) (xrun V F G fu M (nx, lo, .int (x - x / y * y) :: st) h)) = some (o, hf) := hrun
    replace hok : (xdec M pc nx .irem 1) = true := hok
    obtain ⟨hd, rfl⟩ := xdec_spec hok
    obtain ⟨x, y, st, rfl, hrun1⟩ := xI2_s hrun
    clear hrun
    have hrun := hrun1
    clear hrun1
    obtain ⟨hy, hrun1⟩ := xN_s hrun
    clear hrun
    have hrun := hrun1
    clear hrun1
    exact lv_irem hx hb hd hy (sm _ _ _ hrun ls hL)
  | ineg =>
    replace hrun : (xI1 st fun x st => xrun V F G fu M (nx, lo, .int (-x) :: st) h) = some (o, hf) := hrun
    replace hok : (xdec M pc nx .ineg 1) = true := hok
    obtain ⟨hd, rfl⟩ := xdec_spec hok
    obtain ⟨x, st, rfl, hrun1⟩ := xI1_s hrun
    clear hrun
    have hrun := hrun1
    clear hrun1
    exact lv_ineg hx hb hd (sm _ _ _ hrun ls hL)
  | ladd =>
    replace hrun : (xL2 st fun x y st => xrun V F G fu M (nx, lo, .long (x + y) :: st) h) = some (o, hf) := hrun
    replace hok : (xdec M pc nx .ladd 1) = true := hok
    obtain ⟨hd, rfl⟩ := xdec_spec hok
    obtain ⟨x, y, st, rfl, hrun1⟩ := xL2_s hrun
    clear hrun
    have hrun := hrun1
    clear hrun1
    exact lv_ladd hx hb hd (sm _ _ _ hrun ls hL)
  | lsub =>
    replace hrun : (xL2 st fun x y st => xrun V F G fu M (nx, lo, .long (x - y) :: st) h) = some (o, hf) := hrun
    replace hok : (xdec M pc nx .lsub 1) = true := hok
    obtain ⟨hd, rfl⟩ := xdec_spec hok
    obtain ⟨x, y, st, rfl, hrun1⟩ := xL2_s hrun
    clear hrun
    have hrun := hrun1
    clear hrun1
    exact lv_lsub hx hb hd (sm _ _ _ hrun ls hL)
  | land =>
    replace hrun : (xL2 st fun x y st => xrun V F G fu M (nx, lo, .long (x &&& y) :: st) h) = some (o, hf) := hrun
    replace hok : (xdec M pc nx .land 1) = true := hok
    obtain ⟨hd, rfl⟩ := xdec_spec hok
    obtain ⟨x, y, st, rfl, hrun1⟩ := xL2_s hrun
    clear hrun
    have hrun := hrun1
    clear hrun1
    exact lv_land hx hb hd (sm _ _ _ hrun ls hL)
  | lor =>
    replace hrun : (xL2 st fun x y st => xrun V F G fu M (nx, lo, .long (x ||| y) :: st) h) = some (o, hf) := hrun
    replace hok : (xdec M pc nx .lor 1) = true := hok
    obtain ⟨hd, rfl⟩ := xdec_spec hok
    obtain ⟨x, y, st, rfl, hrun1⟩ := xL2_s hrun
    clear hrun
    have hrun := hrun1
    clear hrun1
    exact lv_lor hx hb hd (sm _ _ _ hrun ls hL)
  | lshl =>
    replace hrun : (xLI st fun x y st => xrun V F G fu M (nx, lo, .long (x <<< (y.toInt64 &&& 63)) :: st) h) = some (o, hf) := hrun
    replace hok : (xdec M pc nx .lshl 1) = true := hok
    obtain ⟨hd, rfl⟩ := xdec_spec hok
    obtain ⟨x, y, st, rfl, hrun1⟩ := xLI_s hrun
    clear hrun
    have hrun := hrun1
    clear hrun1
    exact lv_lshl hx hb hd rfl (sm _ _ _ hrun ls hL)
  | lushr =>
    replace hrun : (xLI st fun x y st => xrun V F G fu M (nx, lo, .long ((x.toUInt64 >>> (y.toInt64.toUInt64 &&& Int64.toUInt64 63)).toInt64) :: st) h) = some (o, hf) := hrun
    replace hok : (xdec M pc nx .lushr 1) = true := hok
    obtain ⟨hd, rfl⟩ := xdec_spec hok
    obtain ⟨x, y, st, rfl, hrun1⟩ := xLI_s hrun
    clear hrun
    have hrun := hrun1
    clear hrun1
    exact lv_lushr hx hb hd rfl (sm _ _ _ hrun ls hL)
  | lcmp =>
    replace hrun : (xL2 st fun x y st => xrun V F G fu M (nx, lo, .int (lg_cmp x y) :: st) h) = some (o, hf) := hrun
    replace hok : (xdec M pc nx .lcmp 1) = true := hok
    obtain ⟨hd, rfl⟩ := xdec_spec hok
    obtain ⟨x, y, st, rfl, hrun1⟩ := xL2_s hrun
    clear hrun
    have hrun := hrun1
    clear hrun1
    exact W.lcmp hx hb hd (sm _ _ _ hrun ls hL)
  | i2l =>
    replace hrun : (xI1 st fun x st => xrun V F G fu M (nx, lo, .long x.toInt64 :: st) h) = some (o, hf) := hrun
    replace hok : (xdec M pc nx .i2l 1) = true := hok
    obtain ⟨hd, rfl⟩ := xdec_spec hok
    obtain ⟨x, st, rfl, hrun1⟩ := xI1_s hrun
    clear hrun
    have hrun := hrun1
    clear hrun1
    exact lv_i2l hx hb hd rfl (sm _ _ _ hrun ls hL)
  | l2i =>
    replace hrun : (xL1 st fun x st => xrun V F G fu M (nx, lo, .int x.toInt32 :: st) h) = some (o, hf) := hrun
    replace hok : (xdec M pc nx .l2i 1) = true := hok
    obtain ⟨hd, rfl⟩ := xdec_spec hok
    obtain ⟨x, st, rfl, hrun1⟩ := xL1_s hrun
    clear hrun
    have hrun := hrun1
    clear hrun1
    exact lv_l2i hx hb hd rfl (sm _ _ _ hrun ls hL)
  | dup =>
    replace hok : (xdec M pc nx .dup 1) = true := hok
    obtain ⟨hd, rfl⟩ := xdec_spec hok
    rcases st with _ | ⟨w, st⟩
    · cases hrun
    · obtain ⟨h1, hrun1⟩ := xB_s hrun
      clear hrun
      have hrun := hrun1
      clear hrun1
      exact lv_dup hx hb hd (xcat1_s h1) (sm _ _ _ hrun ls hL)
  | dup2 =>
    replace hok : (xdec M pc nx .dup2 1) = true := hok
    obtain ⟨hd, rfl⟩ := xdec_spec hok
    rcases st with _ | ⟨w, _ | ⟨u, st⟩⟩
    · cases hrun
    · cases hrun
    · obtain ⟨h1, hrun1⟩ := xB_s hrun
      clear hrun
      have hrun := hrun1
      clear hrun1
      simp only [Bool.and_eq_true] at h1
      exact lv_dup2_11 hx hb hd (xcat1_s h1.1) (xcat1_s h1.2) (sm _ _ _ hrun ls hL)
  | dup_x1 =>
    replace hok : (xdec M pc nx .dup_x1 1) = true := hok
    obtain ⟨hd, rfl⟩ := xdec_spec hok
    rcases st with _ | ⟨w, _ | ⟨u, st⟩⟩
    · cases hrun
    · cases hrun
    · obtain ⟨h1, hrun1⟩ := xB_s hrun
      clear hrun
      have hrun := hrun1
      clear hrun1
      simp only [Bool.and_eq_true] at h1
      exact lv_dup_x1 hx hb hd (xcat1_s h1.1) (xcat1_s h1.2) (sm _ _ _ hrun ls hL)
  | dup_x2 =>
    replace hok : (xdec M pc nx .dup_x2 1) = true := hok
    obtain ⟨hd, rfl⟩ := xdec_spec hok
    rcases st with _ | ⟨w, _ | ⟨u, _ | ⟨t, st⟩⟩⟩
    · cases hrun
    · cases hrun
    · cases hrun
    · obtain ⟨h1, hrun1⟩ := xB_s hrun
      clear hrun
      have hrun := hrun1
      clear hrun1
      simp only [Bool.and_eq_true] at h1
      exact lv_dup_x2 hx hb hd (xcat1_s h1.1.1) (xcat1_s h1.1.2) (xcat1_s h1.2) (sm _ _ _ hrun ls hL)
  | pop =>
    replace hok : (xdec M pc nx .pop 1) = true := hok
    obtain ⟨hd, rfl⟩ := xdec_spec hok
    rcases st with _ | ⟨w, st⟩
    · cases hrun
    · obtain ⟨h1, hrun1⟩ := xB_s hrun
      clear hrun
      have hrun := hrun1
      clear hrun1
      exact lv_pop hx hb hd (xcat1_s h1) (sm _ _ _ hrun ls hL)
  | ifCond cn off =>
    replace hrun : (xI1 st fun x st => xif cn x 0 (xrun V F G fu M (a, lo, st) h) (xrun V F G fu M (nx, lo, st) h)) = some (o, hf) := hrun
    replace hok : (xdec M pc nx (.ifCond cn off) 3 && decide ((pc : Int) + off = (a : Int))) = true := hok
    simp only [Bool.and_eq_true] at hok
    obtain ⟨hok, hok2⟩ := hok
    obtain ⟨hd, rfl⟩ := xdec_spec hok
    have ht := of_decide_eq_true hok2
    obtain ⟨x, st, rfl, hrun1⟩ := xI1_s hrun
    clear hrun
    have hrun := hrun1
    clear hrun1
    cases cn with
    | eq => exact lv_if_eq hx hb hd ht (fun hc => sm _ _ _ ((if_pos hc).symm.trans hrun) ls hL) (fun hc => sm _ _ _ ((if_neg hc).symm.trans hrun) ls hL)
    | ne => exact lv_if_ne hx hb hd ht (fun hc => sm _ _ _ ((if_neg hc).symm.trans hrun) ls hL) (fun hc => sm _ _ _ ((if_pos hc).symm.trans hrun) ls hL)
    | lt => exact lv_if_lt hx hb hd ht (fun hc => sm _ _ _ ((if_pos hc).symm.trans hrun) ls hL) (fun hc => sm _ _ _ ((if_neg hc).symm.trans hrun) ls hL)
    | ge => exact lv_if_ge hx hb hd ht (fun hc => sm _ _ _ ((if_pos hc).symm.trans hrun) ls hL) (fun hc => sm _ _ _ ((if_neg hc).symm.trans hrun) ls hL)
    | gt => exact lv_if_gt hx hb hd ht (fun hc => sm _ _ _ ((if_pos hc).symm.trans hrun) ls hL) (fun hc => sm _ _ _ ((if_neg hc).symm.trans hrun) ls hL)
    | le => exact lv_if_le hx hb hd ht (fun hc => sm _ _ _ ((if_pos hc).symm.trans hrun) ls hL) (fun hc => sm _ _ _ ((if_neg hc).symm.trans hrun) ls hL)
  | if_icmp cn off =>
    replace hrun : (xI2 st fun x y st => xif cn x y (xrun V F G fu M (a, lo, st) h) (xrun V F G fu M (nx, lo, st) h)) = some (o, hf) := hrun
    replace hok : (xdec M pc nx (.if_icmp cn off) 3 && decide ((pc : Int) + off = (a : Int))) = true := hok
    simp only [Bool.and_eq_true] at hok
    obtain ⟨hok, hok2⟩ := hok
    obtain ⟨hd, rfl⟩ := xdec_spec hok
    have ht := of_decide_eq_true hok2
    obtain ⟨x, y, st, rfl, hrun1⟩ := xI2_s hrun
    clear hrun
    have hrun := hrun1
    clear hrun1
    cases cn with
    | eq => exact lv_icmp_eq hx hb hd ht (fun hc => sm _ _ _ ((if_pos hc).symm.trans hrun) ls hL) (fun hc => sm _ _ _ ((if_neg hc).symm.trans hrun) ls hL)
    | ne => exact lv_icmp_ne hx hb hd ht (fun hc => sm _ _ _ ((if_neg hc).symm.trans hrun) ls hL) (fun hc => sm _ _ _ ((if_pos hc).symm.trans hrun) ls hL)
    | lt => exact lv_icmp_lt hx hb hd ht (fun hc => sm _ _ _ ((if_pos hc).symm.trans hrun) ls hL) (fun hc => sm _ _ _ ((if_neg hc).symm.trans hrun) ls hL)
    | ge => exact lv_icmp_ge hx hb hd ht (fun hc => sm _ _ _ ((if_pos hc).symm.trans hrun) ls hL) (fun hc => sm _ _ _ ((if_neg hc).symm.trans hrun) ls hL)
    | gt => exact lv_icmp_gt hx hb hd ht (fun hc => sm _ _ _ ((if_pos hc).symm.trans hrun) ls hL) (fun hc => sm _ _ _ ((if_neg hc).symm.trans hrun) ls hL)
    | le => exact lv_icmp_le hx hb hd ht (fun hc => sm _ _ _ ((if_pos hc).symm.trans hrun) ls hL) (fun hc => sm _ _ _ ((if_neg hc).symm.trans hrun) ls hL)
  | goto off =>
    replace hrun : (xrun V F G fu M (a, lo, st) h) = some (o, hf) := hrun
    replace hok : (xdec M pc nx (.goto off) 3 && decide ((pc : Int) + off = (a : Int))) = true := hok
    simp only [Bool.and_eq_true] at hok
    obtain ⟨hok, hok2⟩ := hok
    obtain ⟨hd, rfl⟩ := xdec_spec hok
    exact lv_goto hx hb hd (of_decide_eq_true hok2) (sm _ _ _ hrun ls hL)
  | tableswitch df lw hi offs =>
    replace hrun : (xI1 st fun x st => if x.toInt < lw ∨ hi < x.toInt then xrun V F G fu M (a, lo, st) h else
      xS offs[(x.toInt - lw).toNat]? fun o => xN ((pc : Int) + o < 0) (xrun V F G fu M (((pc : Int) + o).toNat, lo, st) h)) = some (o, hf) := hrun
    replace hok : (decide (decode (xby M) pc = .ok (.tableswitch df lw hi offs, nx - pc)) && decide ((pc : Int) + df = (a : Int))) = true := hok
    simp only [Bool.and_eq_true] at hok
    have hd := of_decide_eq_true hok.1
    have ht := of_decide_eq_true hok.2
    obtain ⟨x, st, rfl, hrun1⟩ := xI1_s hrun
    clear hrun
    have hrun := hrun1
    clear hrun1
    by_cases hq : x.toInt < lw ∨ hi < x.toInt
    · rw [if_pos hq] at hrun
      exact lv_tableOut hx hb hd hq ht (sm _ _ _ hrun ls hL)
    · rw [if_neg hq] at hrun
      obtain ⟨of, ho, hrun1⟩ := xS_s hrun
      clear hrun
      have hrun := hrun1
      clear hrun1
      obtain ⟨hn0, hrun1⟩ := xN_s hrun
      clear hrun
      have hrun := hrun1
      clear hrun1
      exact lv_tableIn hx hb hd (fun z => hq (Or.inl z)) (fun z => hq (Or.inr z)) ho (by omega) (sm _ _ _ hrun ls hL)
  | ireturn =>
    replace hok : (xdec M pc nx .ireturn 1) = true := hok
    obtain ⟨hd, rfl⟩ := xdec_spec hok
    replace hrun : (match (generalizing := false) st, xrt M with | [.int x], some .int => some (.inl (some (.int x)), h) | [.int x], some .boolean => xB (decide (x = 0 ∨ x = 1)) (some (.inl (some (.int x)), h)) | _, _ => none) = some (o, hf) := hrun
    split at hrun
    · next x he =>
      simp only [Option.some.injEq, Prod.mk.injEq] at hrun
      obtain ⟨rfl, rfl⟩ := hrun
      exact xW_mono (xMQ (v := some (.int x)) hR) (W.iret hx hb (hrt.trans he) (fun t ht _ => ⟨rfl, ht⟩) hl hd hlk)
    · next x he =>
      obtain ⟨h1, hrun1⟩ := xB_s hrun
      clear hrun
      have hrun := hrun1
      clear hrun1
      have h1 := of_decide_eq_true h1
      simp only [Option.some.injEq, Prod.mk.injEq] at hrun
      obtain ⟨rfl, rfl⟩ := hrun
      exact xW_mono (xMQ (v := some (.int x)) hR) (W.zret hx hb (hrt.trans he) (by rcases h1 with rfl | rfl <;> rfl) (fun t ht _ => ⟨rfl, ht⟩) hl hd hlk)
    · cases hrun
  | lreturn =>
    replace hok : (xdec M pc nx .lreturn 1) = true := hok
    obtain ⟨hd, rfl⟩ := xdec_spec hok
    replace hrun : (match (generalizing := false) st, xrt M with | [.long x], some .long => some (.inl (some (.long x)), h) | _, _ => none) = some (o, hf) := hrun
    split at hrun
    · next x he =>
      simp only [Option.some.injEq, Prod.mk.injEq] at hrun
      obtain ⟨rfl, rfl⟩ := hrun
      exact xW_mono (xMQ (v := some (.long x)) hR) (W.lret hx hb (hrt.trans he) (fun t ht _ => ⟨rfl, ht⟩) hl hd hlk)
    · cases hrun
  | areturn =>
    replace hok : (xdec M pc nx .areturn 1) = true := hok
    obtain ⟨hd, rfl⟩ := xdec_spec hok
    replace hrun : (match (generalizing := false) st, xrt M with | [.ref x], some (.object _) => some (.inl (some (.ref x)), h) | [.ref x], some (.array _) => some (.inl (some (.ref x)), h) | _, _ => none) = some (o, hf) := hrun
    split at hrun
    · next x nm he =>
      simp only [Option.some.injEq, Prod.mk.injEq] at hrun
      obtain ⟨rfl, rfl⟩ := hrun
      exact xW_mono (xMQ (v := some (.ref x)) hR) (W.aret hx hb (hrt.trans he) (Or.inl ⟨_, rfl⟩) (Or.inr ⟨_, rfl⟩) (fun t ht _ => ⟨rfl, ht⟩) hl hd hlk)
    · next x nm he =>
      simp only [Option.some.injEq, Prod.mk.injEq] at hrun
      obtain ⟨rfl, rfl⟩ := hrun
      exact xW_mono (xMQ (v := some (.ref x)) hR) (W.aret hx hb (hrt.trans he) (Or.inr ⟨_, rfl⟩) (Or.inr ⟨_, rfl⟩) (fun t ht _ => ⟨rfl, ht⟩) hl hd hlk)
    · cases hrun
  | return_ =>
    replace hok : (xdec M pc nx .return_ 1) = true := hok
    obtain ⟨hd, rfl⟩ := xdec_spec hok
    replace hrun : (match (generalizing := false) st, xrt M with | [], none => some (.inl none, h) | _, _ => none) = some (o, hf) := hrun
    split at hrun
    · next he =>
      simp only [Option.some.injEq, Prod.mk.injEq] at hrun
      obtain ⟨rfl, rfl⟩ := hrun
      exact xW_mono (xMQ (v := none) hR) (W.vret hx hb (hrt.trans he) (fun t ht _ => ⟨rfl, ht⟩) hl hd hlk)
    · cases hrun
  | getfield k =>
    replace hrun : (xA1 st fun o st => xcO (h.1 o) fun c fs => xB (Nat.beq c a) (xS (xnth fs b) fun w => xrun V F G fu M (nx, lo, w :: st) h)) = some (o, hf) := hrun
    replace hok : (xdec M pc nx (.getfield k) 3 && (match (generalizing := false) cl[a]? with | some (_, T, N) => Nat.blt b N && xin WL (hs.getD 0 0) (.fieldLink (xnm M).cls k (T b).1 (T b).2.1 (T b).2.2.1) | none => false)) = true := hok
    simp only [Bool.and_eq_true] at hok
    obtain ⟨hok, hok2⟩ := hok
    obtain ⟨hd, rfl⟩ := xdec_spec hok
    split at hok2
    · next C0 T0 N1 hc =>
      simp only [Bool.and_eq_true, Nat.blt_eq] at hok2
      obtain ⟨ob, st, rfl, hrun1⟩ := xA1_s hrun
      clear hrun
      have hrun := hrun1
      clear hrun1
      obtain ⟨c0, fs, ho, hrun1⟩ := xcO_s hrun
      clear hrun
      have hrun := hrun1
      clear hrun1
      obtain ⟨h1, hrun1⟩ := xB_s hrun
      clear hrun
      have hrun := hrun1
      clear hrun1
      have h1 := Nat.eq_of_beq_eq_true h1
      subst h1
      obtain ⟨w, hw, hrun1⟩ := xS_s hrun
      clear hrun
      have hrun := hrun1
      clear hrun1
      rw [xnth_eq] at hw
      exact xw_get hx hb hts hK hR (hU _ _ _ _ hc).1 hown ho hc hok2.1 (hts _ (xin_mem hok2.2)) hw hd (sm _ _ _ hrun ls hL)
    · cases hok2
  | putfield k =>
    replace hrun : (xAV st fun o w st => xvK v fun k => xcO (h.1 o) fun c fs => xB (Nat.beq c a && Nat.blt b fs.length && xfit k w) (xrun V F G fu M (nx, lo, st) (xset h o (xO' c (xupd fs b w))))) = some (o, hf) := hrun
    replace hok : (xdec M pc nx (.putfield k) 3 && (match (generalizing := false) cl[a]? with | some (_, T, N) => Nat.blt b N && xin WL (hs.getD 0 0) (.fieldLink (xnm M).cls k (T b).1 (T b).2.1 (T b).2.2.1) && (!(T b).2.2.2 || (decide ((xnm M).name = "<init>") && decide ((T b).1 = (xnm M).cls))) && (match (generalizing := false) v with | .retAddr q => xkind q (ty0 a b) | _ => false) | none => false)) = true := hok
    simp only [Bool.and_eq_true] at hok
    obtain ⟨hok, hok2⟩ := hok
    obtain ⟨hd, rfl⟩ := xdec_spec hok
    split at hok2
    · next C0 T0 N1 hc =>
      simp only [Bool.and_eq_true, Nat.blt_eq] at hok2
      obtain ⟨⟨⟨k1, k2⟩, k3⟩, k4⟩ := hok2
      obtain ⟨ob, w, st, rfl, hrun1⟩ := xAV_s hrun
      clear hrun
      have hrun := hrun1
      clear hrun1
      obtain ⟨kk, rfl, hrun1⟩ := xvK_s hrun
      clear hrun
      have hrun := hrun1
      clear hrun1
      obtain ⟨c0, fs, ho, hrun1⟩ := xcO_s hrun
      clear hrun
      have hrun := hrun1
      clear hrun1
      obtain ⟨h1, hrun1⟩ := xB_s hrun
      clear hrun
      have hrun := hrun1
      clear hrun1
      simp only [Bool.and_eq_true, Nat.blt_eq] at h1
      obtain ⟨⟨h1, h2⟩, h3⟩ := h1
      have h1 := Nat.eq_of_beq_eq_true h1
      subst h1
      have k4 : xkind kk (ty0 c0 b) = true := k4
      have hnf := xkind_fit k4 h3
      have hfin : (T0 b).2.2.2 = false ∨ ((T0 b).2.2.2 = true ∧ meth.name = "<init>" ∧ (T0 b).1 = (xnm M).cls) := by
        cases hfl : (T0 b).2.2.2 with
        | false => exact Or.inl rfl
        | true =>
          rw [hfl] at k3
          simp only [Bool.not_true, Bool.false_or, Bool.and_eq_true, decide_eq_true_eq] at k3
          exact Or.inr ⟨rfl, (name_of_methodNamed hnm hmeth).1.trans k3.1, k3.2⟩
      obtain ⟨u1, u2, u3, -⟩ := hU _ _ _ _ hc
      exact xw_put hx hb hts hK hR hl u1 (ty0 c0) u2 u3 hown ho hc k1 (hts _ (xin_mem k2)) hfin hnf.1 hnf.2 h2 hd (fun H1 locs1 r1 r2 => go (_, _, _) _ hrun hN hS H1 locs1 ls r1 hL r2)
    · cases hok2
  | iaload =>
    replace hrun : (xAI st fun o j st => xcI (h.1 o) fun t n g => xB (Nat.beq t 0 || Nat.beq t 3) (xN (j < 0 ∨ n ≤ j.toNatClampNeg) (xrun V F G fu M (nx, lo, .int (g j.toNatClampNeg) :: st) h))) = some (o, hf) := hrun
    replace hok : (xdec M pc nx .iaload 1) = true := hok
    obtain ⟨hd, rfl⟩ := xdec_spec hok
    obtain ⟨ob, j, st, rfl, hrun1⟩ := xAI_s hrun
    clear hrun
    have hrun := hrun1
    clear hrun1
    obtain ⟨t, n1, gg, ho, hrun1⟩ := xcI_s hrun
    clear hrun
    have hrun := hrun1
    clear hrun1
    obtain ⟨h1, hrun1⟩ := xB_s hrun
    clear hrun
    have hrun := hrun1
    clear hrun1
    obtain ⟨hj, hrun1⟩ := xN_s hrun
    clear hrun
    have hrun := hrun1
    clear hrun1
    simp only [Bool.or_eq_true] at h1
    exact xw_iald hx hb hR ho (h1.imp Nat.eq_of_beq_eq_true Nat.eq_of_beq_eq_true) hj hd (sm _ _ _ hrun ls hL)
  | baload =>
    replace hrun : (xAI st fun o j st => xcI (h.1 o) fun t n g => xB (Nat.beq t 2) (xN (j < 0 ∨ n ≤ j.toNatClampNeg) (xrun V F G fu M (nx, lo, .int (g j.toNatClampNeg) :: st) h))) = some (o, hf) := hrun
    replace hok : (xdec M pc nx .baload 1) = true := hok
    obtain ⟨hd, rfl⟩ := xdec_spec hok
    obtain ⟨ob, j, st, rfl, hrun1⟩ := xAI_s hrun
    clear hrun
    have hrun := hrun1
    clear hrun1
    obtain ⟨t, n1, gg, ho, hrun1⟩ := xcI_s hrun
    clear hrun
    have hrun := hrun1
    clear hrun1
    obtain ⟨h1, hrun1⟩ := xB_s hrun
    clear hrun
    have hrun := hrun1
    clear hrun1
    obtain ⟨hj, hrun1⟩ := xN_s hrun
    clear hrun
    have hrun := hrun1
    clear hrun1
    have h1 := Nat.eq_of_beq_eq_true h1
    subst h1
    exact xw_zald hx hb hR ho hj hd (sm _ _ _ hrun ls hL)
  | laload =>
    replace hrun : (xAI st fun o j st => xcL (h.1 o) fun t n g => xB (Nat.beq t 1) (xN (j < 0 ∨ n ≤ j.toNatClampNeg) (xrun V F G fu M (nx, lo, .long (g j.toNatClampNeg) :: st) h))) = some (o, hf) := hrun
    replace hok : (xdec M pc nx .laload 1) = true := hok
    obtain ⟨hd, rfl⟩ := xdec_spec hok
    obtain ⟨ob, j, st, rfl, hrun1⟩ := xAI_s hrun
    clear hrun
    have hrun := hrun1
    clear hrun1
    obtain ⟨t, n1, gg, ho, hrun1⟩ := xcL_s hrun
    clear hrun
    have hrun := hrun1
    clear hrun1
    obtain ⟨h1, hrun1⟩ := xB_s hrun
    clear hrun
    have hrun := hrun1
    clear hrun1
    obtain ⟨hj, hrun1⟩ := xN_s hrun
    clear hrun
    have hrun := hrun1
    clear hrun1
    have h1 := Nat.eq_of_beq_eq_true h1
    subst h1
    exact xw_lald hx hb hR ho hj hd (sm _ _ _ hrun ls hL)
  | aaload =>
    replace hrun : (xAI st fun o j st => xcR (h.1 o) fun t n g => xB (Nat.ble 4 t) (xN (j < 0 ∨ n ≤ j.toNatClampNeg) (xS (g j.toNatClampNeg) fun w => xrun V F G fu M (nx, lo, .ref w :: st) h))) = some (o, hf) := hrun
    replace hok : (xdec M pc nx .aaload 1) = true := hok
    obtain ⟨hd, rfl⟩ := xdec_spec hok
    obtain ⟨ob, j, st, rfl, hrun1⟩ := xAI_s hrun
    clear hrun
    have hrun := hrun1
    clear hrun1
    obtain ⟨t, n1, gg, ho, hrun1⟩ := xcR_s hrun
    clear hrun
    have hrun := hrun1
    clear hrun1
    obtain ⟨h1, hrun1⟩ := xB_s hrun
    clear hrun
    have hrun := hrun1
    clear hrun1
    obtain ⟨hj, hrun1⟩ := xN_s hrun
    clear hrun
    have hrun := hrun1
    clear hrun1
    obtain ⟨w, hw, hrun1⟩ := xS_s hrun
    clear hrun
    have hrun := hrun1
    clear hrun1
    exact xw_aald hx hb hR ho (Nat.le_of_ble_eq_true h1) hj hw hd (sm _ _ _ hrun ls hL)
  | iastore =>
    replace hrun : (xAII st fun o j x st => xcI (h.1 o) fun t n g => xB (Nat.beq t 0) (xN (j < 0 ∨ n ≤ j.toNatClampNeg) (xrun V F G fu M (nx, lo, st) (xset h o (xA t n (xint (upd g j.toNatClampNeg x))))))) = some (o, hf) := hrun
    replace hok : (xdec M pc nx .iastore 1) = true := hok
    obtain ⟨hd, rfl⟩ := xdec_spec hok
    obtain ⟨ob, j, x, st, rfl, hrun1⟩ := xAII_s hrun
    clear hrun
    have hrun := hrun1
    clear hrun1
    obtain ⟨t, n1, gg, ho, hrun1⟩ := xcI_s hrun
    clear hrun
    have hrun := hrun1
    clear hrun1
    obtain ⟨h1, hrun1⟩ := xB_s hrun
    clear hrun
    have hrun := hrun1
    clear hrun1
    obtain ⟨hj, hrun1⟩ := xN_s hrun
    clear hrun
    have hrun := hrun1
    clear hrun1
    have h1 := Nat.eq_of_beq_eq_true h1
    subst h1
    exact xw_iast hx hb hR hl ho hj hd (fun H1 locs1 r1 r2 => go (_, _, _) _ hrun hN hS H1 locs1 ls r1 hL r2)
  | lastore =>
    replace hrun : (xAIL st fun o j x st => xcL (h.1 o) fun t n g => xB (Nat.beq t 1) (xN (j < 0 ∨ n ≤ j.toNatClampNeg) (xrun V F G fu M (nx, lo, st) (xset h o (xA t n (xlng (vp_updL g j.toNatClampNeg x))))))) = some (o, hf) := hrun
    replace hok : (xdec M pc nx .lastore 1) = true := hok
    obtain ⟨hd, rfl⟩ := xdec_spec hok
    obtain ⟨ob, j, x, st, rfl, hrun1⟩ := xAIL_s hrun
    clear hrun
    have hrun := hrun1
    clear hrun1
    obtain ⟨t, n1, gg, ho, hrun1⟩ := xcL_s hrun
    clear hrun
    have hrun := hrun1
    clear hrun1
    obtain ⟨h1, hrun1⟩ := xB_s hrun
    clear hrun
    have hrun := hrun1
    clear hrun1
    obtain ⟨hj, hrun1⟩ := xN_s hrun
    clear hrun
    have hrun := hrun1
    clear hrun1
    have h1 := Nat.eq_of_beq_eq_true h1
    subst h1
    exact xw_last hx hb hR hl ho hj hd (fun H1 locs1 r1 r2 => go (_, _, _) _ hrun hN hS H1 locs1 ls r1 hL r2)
  | bastore =>
    replace hrun : (xAII st fun o j x st => xcI (h.1 o) fun t n g => xB (Nat.beq t 2 && decide (x = 0 ∨ x = 1)) (xN (j < 0 ∨ n ≤ j.toNatClampNeg) (xrun V F G fu M (nx, lo, st) (xset h o (xA t n (xint (upd g j.toNatClampNeg x))))))) = some (o, hf) := hrun
    replace hok : (xdec M pc nx .bastore 1) = true := hok
    obtain ⟨hd, rfl⟩ := xdec_spec hok
    obtain ⟨ob, j, x, st, rfl, hrun1⟩ := xAII_s hrun
    clear hrun
    have hrun := hrun1
    clear hrun1
    obtain ⟨t, n1, gg, ho, hrun1⟩ := xcI_s hrun
    clear hrun
    have hrun := hrun1
    clear hrun1
    obtain ⟨h1, hrun1⟩ := xB_s hrun
    clear hrun
    have hrun := hrun1
    clear hrun1
    obtain ⟨hj, hrun1⟩ := xN_s hrun
    clear hrun
    have hrun := hrun1
    clear hrun1
    simp only [Bool.and_eq_true] at h1
    have h2 := of_decide_eq_true h1.2
    have h1 := Nat.eq_of_beq_eq_true h1.1
    subst h1
    exact xw_zast hx hb hR hl ho h2 hj hd (fun H1 locs1 r1 r2 => go (_, _, _) _ hrun hN hS H1 locs1 ls r1 hL r2)
  | aastore =>
    replace hrun : (xAIA st fun o j w st => xcR (h.1 o) fun t n g => xcO (h.1 w) fun c _ => xB (Nat.beq t (5 + c)) (xN (j < 0 ∨ n ≤ j.toNatClampNeg) (xrun V F G fu M (nx, lo, st) (xset h o (xA t n (xref (va_up g j.toNatClampNeg (some w)))))))) = some (o, hf) := hrun
    replace hok : (xdec M pc nx .aastore 1) = true := hok
    obtain ⟨hd, rfl⟩ := xdec_spec hok
    obtain ⟨ob, j, w, st, rfl, hrun1⟩ := xAIA_s hrun
    clear hrun
    have hrun := hrun1
    clear hrun1
    obtain ⟨t, n1, gg, ho, hrun1⟩ := xcR_s hrun
    clear hrun
    have hrun := hrun1
    clear hrun1
    obtain ⟨c0, fs, hw, hrun1⟩ := xcO_s hrun
    clear hrun
    have hrun := hrun1
    clear hrun1
    obtain ⟨h1, hrun1⟩ := xB_s hrun
    clear hrun
    have hrun := hrun1
    clear hrun1
    obtain ⟨hj, hrun1⟩ := xN_s hrun
    clear hrun
    have hrun := hrun1
    clear hrun1
    have h1 := Nat.eq_of_beq_eq_true h1
    subst h1
    exact xw_aast hx hb hK hR hl ho hw hj hd (fun H1 locs1 r1 r2 => go (_, _, _) _ hrun hN hS H1 locs1 ls r1 hL r2)
  | arraylength =>
    replace hrun : (xA1 st fun o st => xcA (h.1 o) fun n => xrun V F G fu M (nx, lo, .int (Int32.ofNat n) :: st) h) = some (o, hf) := hrun
    replace hok : (xdec M pc nx .arraylength 1) = true := hok
    obtain ⟨hd, rfl⟩ := xdec_spec hok
    obtain ⟨ob, st, rfl, hrun1⟩ := xA1_s hrun
    clear hrun
    have hrun := hrun1
    clear hrun1
    obtain ⟨t, n1, gg, ho, hrun1⟩ := xcA_s hrun
    clear hrun
    have hrun := hrun1
    clear hrun1
    exact xw_alen hx hb hR ho hd (sm _ _ _ hrun ls hL)
  | newarray k =>
    replace hrun : (xI1 st fun n st => xN (n < 0 ∨ 1000000 < n.toNatClampNeg) (xrun V F G fu M (nx, lo, .ref h.2.1 :: st) (xnew h (xA a n.toNatClampNeg (xzero a)) n.toNatClampNeg))) = some (o, hf) := hrun
    replace hok : (xdec M pc nx (.newarray k) 2 && xnat a k && xin WL (hs.getD 0 0) (.arrayClass (newarray.typeOf k))) = true := hok
    simp only [Bool.and_eq_true] at hok
    obtain ⟨⟨hok, hok2⟩, hok3⟩ := hok
    obtain ⟨hd, rfl⟩ := xdec_spec hok
    obtain ⟨x, st, rfl, hrun1⟩ := xI1_s hrun
    clear hrun
    have hrun := hrun1
    clear hrun1
    obtain ⟨hj, hrun1⟩ := xN_s hrun
    clear hrun
    have hrun := hrun1
    clear hrun1
    have mo := xrun_mono fu _ _ _ _ hrun
    dsimp only [xnew] at mo
    refine xw_newa hx hb hR (of_decide_eq_true hok2) (hts _ (xin_mem hok3)) (fun z => hj (Or.inl z)) (by omega) (by omega) (by omega) hd (fun H1 r1 => ?_)
    refine W.cs (cells' := h.2.1 + 1 - N0) (slots' := h.2.2 + x.toNatClampNeg - S0) (by omega) (by omega) ?_
    exact go (_, _, _) _ hrun (Nat.le_succ_of_le hN) (Nat.le_trans hS (Nat.le_add_right _ _)) H1 locs ls r1 hL hl
  | anewarray k =>
    replace hrun : (xI1 st fun n st => xN (n < 0 ∨ 1000000 < n.toNatClampNeg) (xrun V F G fu M (nx, lo, .ref h.2.1 :: st) (xnew h (xA a n.toNatClampNeg (xzero a)) n.toNatClampNeg))) = some (o, hf) := hrun
    replace hok : (xdec M pc nx (.anewarray k) 3 && Nat.ble 5 a && (match (generalizing := false) cl[a - 5]? with | some r => xin WL (hs.getD 0 0) (.classLink (xnm M).cls k r.1) && xin WL (hs.getD 1 0) (.arrayOver (.object r.1)) | none => false)) = true := hok
    simp only [Bool.and_eq_true] at hok
    obtain ⟨⟨hok, hok2⟩, hok3⟩ := hok
    obtain ⟨hd, rfl⟩ := xdec_spec hok
    have hok2 := Nat.le_of_ble_eq_true hok2
    obtain ⟨k5, rfl⟩ : ∃ k5, a = 5 + k5 := ⟨a - 5, by omega⟩
    rw [show 5 + k5 - 5 = k5 by omega] at hok3
    split at hok3
    · next r hc =>
      simp only [Bool.and_eq_true] at hok3
      obtain ⟨x, st, rfl, hrun1⟩ := xI1_s hrun
      clear hrun
      have hrun := hrun1
      clear hrun1
      obtain ⟨hj, hrun1⟩ := xN_s hrun
      clear hrun
      have hrun := hrun1
      clear hrun1
      have mo := xrun_mono fu _ _ _ _ hrun
      dsimp only [xnew] at mo
      refine xw_newq hx hb hR hc hown (hts _ (xin_mem hok3.1)) (hts _ (xin_mem hok3.2)) (fun z => hj (Or.inl z)) (by omega) (by omega) (by omega) hd (fun H1 r1 => ?_)
      refine W.cs (cells' := h.2.1 + 1 - N0) (slots' := h.2.2 + x.toNatClampNeg - S0) (by omega) (by omega) ?_
      exact go (_, _, _) _ hrun (Nat.le_succ_of_le hN) (Nat.le_trans hS (Nat.le_add_right _ _)) H1 locs ls r1 hL hl
    · cases hok3
  | multianewarray k dm =>
    replace hrun : (xI2 st fun n k st => xN (n < 0 ∨ 1000 < n.toNatClampNeg ∨ k < 0 ∨ 1000000 < k.toNatClampNeg) (xrun V F G fu M (nx, lo, .ref h.2.1 :: st) (xgrid h a b n.toNatClampNeg k.toNatClampNeg))) = some (o, hf) := hrun
    replace hok : (xdec M pc nx (.multianewarray k dm) 4 && Nat.beq dm 2 && Nat.beq a 4 && Nat.beq b 0 && xin WL (hs.getD 0 0) (.classLink (xnm M).cls k "[[I") && xin WL (hs.getD 1 0) (.arrayOver (.array .int)) && xin WL (hs.getD 2 0) (.arrayClass .int)) = true := hok
    simp only [Bool.and_eq_true] at hok
    obtain ⟨⟨⟨⟨⟨⟨hok, o1⟩, o2⟩, o3⟩, o4⟩, o5⟩, o6⟩ := hok
    obtain ⟨hd, rfl⟩ := xdec_spec hok
    have o1 := Nat.eq_of_beq_eq_true o1
    have o2 := Nat.eq_of_beq_eq_true o2
    have o3 := Nat.eq_of_beq_eq_true o3
    subst o1
    subst o2
    subst o3
    obtain ⟨x, y, st, rfl, hrun1⟩ := xI2_s hrun
    clear hrun
    have hrun := hrun1
    clear hrun1
    obtain ⟨hj, hrun1⟩ := xN_s hrun
    clear hrun
    have hrun := hrun1
    clear hrun1
    have mo := xrun_mono fu _ _ _ _ hrun
    dsimp only [xgrid] at mo
    refine xw_grid hx hb hR hl hown (hts _ (xin_mem o4)) (hts _ (xin_mem o5)) (hts _ (xin_mem o6)) (fun z => hj (Or.inl z)) (fun z => hj (Or.inr (Or.inr (Or.inl z)))) (by omega) (by omega) (by omega) (by omega) hd (fun H1 locs1 r1 r2 => ?_)
    refine W.cs (cells' := h.2.1 + 1 + x.toNatClampNeg - N0) (slots' := h.2.2 + x.toNatClampNeg + x.toNatClampNeg * y.toNatClampNeg - S0) (by omega) (by omega) ?_
    exact go (_, _, _) _ hrun (by dsimp only [xgrid]; omega) (by dsimp only [xgrid]; omega) H1 locs1 ls r1 hL r2
  | new k =>
    have rest : (xdec M pc nx (.new k) 3 && (match (generalizing := false) cl[a]? with | some (C, _, _) => xin WL (hs.getD 0 0) (.classLink (xnm M).cls k C) && xin WL (hs.getD 1 0) (.instantiable C b) && xin WL (hs.getD 2 0) (.initialized C) | none => false)) = true → xrun V F G fu M (nx, lo, .ref h.2.1 :: st) (xnew h (xO' a (F a)) b) = some (o, hf) → W p l e R s m args below meth c H locs (h.2.1 - N0) (h.2.2 - S0) (xQ D cl H0 s below o hf N0 S0) (F0 m pc ls st) := by
      clear hrun hok
      intro hok hrun
      simp only [Bool.and_eq_true] at hok
      obtain ⟨hok, hok2⟩ := hok
      obtain ⟨hd, rfl⟩ := xdec_spec hok
      split at hok2
      · next C0 T0 N1 hc =>
        simp only [Bool.and_eq_true] at hok2
        have mo := xrun_mono fu _ _ _ _ hrun
        dsimp only [xnew] at mo
        obtain ⟨u1, u2, u3, u4⟩ := hU _ _ _ _ hc
        refine xw_new hx hb hts hK hR u1 (ty0 a) u2 hown hc (hts _ (xin_mem hok2.1.1)) (hts _ (xin_mem hok2.1.2)) (hts _ (xin_mem hok2.2)) u4 (by omega) (by omega) hd (fun H1 r1 => ?_)
        refine W.cs (cells' := h.2.1 + 1 - N0) (slots' := h.2.2 + b - S0) (by omega) (by omega) ?_
        exact go (_, _, _) _ hrun (Nat.le_succ_of_le hN) (Nat.le_trans hS (Nat.le_add_right _ _)) H1 locs ls r1 hL hl
      · cases hok2
    cases v with
    | null =>
      rcases st with _ | ⟨w, st⟩
      case cons => cases hrun
      replace hrun : some (Sum.inr (a, h.2.1), xnew h (xO' a []) b) = some (o, hf) := hrun
      replace hok : xtok WL HL cl SL NM M pc k a b hs = true := hok
      simp only [Option.some.injEq, Prod.mk.injEq] at hrun
      obtain ⟨rfl, rfl⟩ := hrun
      exact hthr M p e R s m args below meth c C pc k a b nx hs h N0 S0 hok hN hS hRc hRs H locs ls hR hL hl
    | int x => exact rest hok hrun
    | long x => exact rest hok hrun
    | float x => exact rest hok hrun
    | double x => exact rest hok hrun
    | ref x => exact rest hok hrun
    | retAddr x => exact rest hok hrun
  | invokestatic k =>
    have rest : (xdec M pc nx (.invokestatic k) 3 && Nat.blt a nG && xlink WL host (xnm M).cls (hs.getD 0 0) k (xnm (G a)) && xin WL (hs.getD 1 0) (.static (xnm (G a))) && xpar (G a) b && xroom M (G a)) = true → (xS (xpop b [] st) fun q => xcall G (xrun V F G fu) M pc nx lo a q.1 q.2 h) = some (o, hf) → W p l e R s m args below meth c H locs (h.2.1 - N0) (h.2.2 - S0) (xQ D cl H0 s below o hf N0 S0) (F0 m pc ls st) := by
      clear hrun hok
      intro hok hrun
      simp only [Bool.and_eq_true] at hok
      obtain ⟨⟨⟨⟨⟨hok, o1⟩, o2⟩, o3⟩, o4⟩, o5⟩ := hok
      obtain ⟨hd, rfl⟩ := xdec_spec hok
      obtain ⟨⟨as, rs⟩, hq, hrun1⟩ := xS_s hrun
      clear hrun
      have hrun := hrun1
      clear hrun1
      obtain ⟨hlen, rfl⟩ := xpop_nil hq
      have hz : a < nG := by simpa using o1
      exact x_call ih hG C hz hrun hd o5 hN hS hRc hRs hR hL hl (fun T hT X mk hmk => x_entS X hx hb hown hsf.1 (hG a hz).1 o2 (xin_mem o3) o4 hlen hmk hd)
    cases v with
    | retAddr x =>
      replace hrun : (xcopy st fun s sp d dp n' st => xcI (h.1 s) fun t n0 g => xcI (h.1 d) fun t' n1 g' => xB (Nat.beq t 0 && Nat.beq t' 0) (xN (sp < 0 ∨ dp < 0 ∨ n' < 0 ∨ n0 < sp.toNatClampNeg + n'.toNatClampNeg ∨ n1 < dp.toNatClampNeg + n'.toNatClampNeg) (xB (Nat.ble (xwt st) 8) (xrun V F G fu M (nx, lo, st) (xset h d (xA t' n1 (xint (va_cpy g g' sp.toNatClampNeg dp.toNatClampNeg n'.toNatClampNeg)))))))) = some (o, hf) := hrun
      replace hok : (xdec M pc nx (.invokestatic k) 3 && xin WL (hs.getD 0 0) (.methodLink (xnm M).cls k arraycopyName) && xin WL (hs.getD 1 0) (.native arraycopyName) && xin WL (hs.getD 2 0) (.static arraycopyName) && xin WL (hs.getD 3 0) (.initialized "java/lang/System") && Nat.ble 1 (xdp M) && Nat.ble (8 + (nativeFrameWords "java/lang/System" "arraycopy" 5 + 11)) (xlc M)) = true := hok
      simp only [Bool.and_eq_true] at hok
      obtain ⟨⟨⟨⟨⟨⟨hok, o1⟩, o2⟩, o3⟩, o4⟩, o5⟩, o6⟩ := hok
      obtain ⟨hd, rfl⟩ := xdec_spec hok
      obtain ⟨sa, sp, da, dp, n', st, rfl, hrun1⟩ := xcopy_s hrun
      clear hrun
      have hrun := hrun1
      clear hrun1
      obtain ⟨t, n0, g0, hs0, hrun1⟩ := xcI_s hrun
      clear hrun
      have hrun := hrun1
      clear hrun1
      obtain ⟨t', n1, g1, hd0, hrun1⟩ := xcI_s hrun
      clear hrun
      have hrun := hrun1
      clear hrun1
      obtain ⟨h1, hrun1⟩ := xB_s hrun
      clear hrun
      have hrun := hrun1
      clear hrun1
      obtain ⟨hj, hrun1⟩ := xN_s hrun
      clear hrun
      have hrun := hrun1
      clear hrun1
      obtain ⟨h2, hrun1⟩ := xB_s hrun
      clear hrun
      have hrun := hrun1
      clear hrun1
      simp only [Bool.and_eq_true] at h1
      have t1 := Nat.eq_of_beq_eq_true h1.1
      have t2 := Nat.eq_of_beq_eq_true h1.2
      subst t1
      subst t2
      have h2 := Nat.le_of_ble_eq_true h2
      have o5 := Nat.le_of_ble_eq_true o5
      have o6 := Nat.le_of_ble_eq_true o6
      exact xw_copy hx hb (hml.trans hL.1.symm) hown (hts _ (xin_mem o1)) (hts _ (xin_mem o2)) (hts _ (xin_mem o3)) (hts _ (xin_mem o4)) hR hl hs0 hd0 (fun z => hj (Or.inl z)) (fun z => hj (Or.inr (Or.inl z))) (fun z => hj (Or.inr (Or.inr (Or.inl z)))) (by omega) (by omega) (Nat.le_trans o5 hfr) (by rw [← xwt_eq]; omega) hd (fun H1 locs1 r1 r2 => go (_, _, _) _ hrun hN hS H1 locs1 ls r1 hL r2)
    | int x => exact rest hok hrun
    | long x => exact rest hok hrun
    | float x => exact rest hok hrun
    | double x => exact rest hok hrun
    | ref x => exact rest hok hrun
    | null => exact rest hok hrun
  | invokevirtual k =>
    replace hrun : (xS (xpop b [] st) fun q => match (generalizing := false) q.1 with | .ref o :: as => xvK v fun k => xcO (h.1 o) fun c _ => xB (Nat.beq c k) (xcall G (xrun V F G fu) M pc nx lo a (.ref o :: as) q.2 h) | _ => none) = some (o, hf) := hrun
    replace hok : (xdec M pc nx (.invokevirtual k) 3 && Nat.blt a nG && xlink WL host (xnm M).cls (hs.getD 0 0) k (xnm (G a)) && xin WL (hs.getD 1 0) (.instanceMethod (xnm (G a))) && xin WL (hs.getD 2 0) (.selects (xnm (G a)).cls (xnm (G a)) (xnm (G a))) && Nat.blt 0 b && xpar (G a) (b - 1) && xroom M (G a) && (match (generalizing := false) v with | .retAddr q => (match (generalizing := false) cl[q]? with | some (C, _, _) => decide (C = (xnm (G a)).cls) | none => false) | _ => false)) = true := hok
    simp only [Bool.and_eq_true] at hok
    obtain ⟨⟨⟨⟨⟨⟨⟨⟨hok, o1⟩, o2⟩, o3⟩, o4⟩, o5⟩, o6⟩, o7⟩, o8⟩ := hok
    obtain ⟨hd, rfl⟩ := xdec_spec hok
    obtain ⟨⟨as, rs⟩, hq, hrun1⟩ := xS_s hrun
    clear hrun
    have hrun := hrun1
    clear hrun1
    obtain ⟨hlen, rfl⟩ := xpop_nil hq
    have hz : a < nG := by simpa using o1
    have hb0 : 0 < b := by simpa using o5
    dsimp only at hrun
    split at hrun
    · next ob as' =>
      obtain ⟨kq, rfl, hrun1⟩ := xvK_s hrun
      clear hrun
      have hrun := hrun1
      clear hrun1
      obtain ⟨c0, fs, ho, hrun1⟩ := xcO_s hrun
      clear hrun
      have hrun := hrun1
      clear hrun1
      obtain ⟨h1, hrun1⟩ := xB_s hrun
      clear hrun
      have hrun := hrun1
      clear hrun1
      have h1 := Nat.eq_of_beq_eq_true h1
      subst h1
      dsimp only at o8
      split at o8
      · next C0 T0 N1 hc =>
        have o8 := of_decide_eq_true o8
        obtain ⟨r, hr, cellR, r1, r2, r3, -⟩ := (hR.2.2.2 ob _ ho).1
        cases hc.symm.trans hr
        have hcls : s.vm.findClass (xnm (G a)).cls = some cellR.cls := by rw [← o8, r2]; exact (hK.1 _ _ hc).2.1
        exact x_call ih hG C hz hrun hd o7 hN hS hRc hRs hR hL hl (fun T hT X mk hmk => x_entV X hx hb hown hsf.1 (hG a hz).1 o2 (xin_mem o3) (xin_mem o4) o6 (by simpa using (by simp only [List.length_cons] at hlen; omega)) hmk (by rw [hT]; exact r1) (by rw [r3]; rfl) hcls hd)
      · cases o8
    · cases hrun
  | invokespecial k =>
    have rest : (xdec M pc nx (.invokespecial k) 3 && Nat.blt a nG && xlink WL host (xnm M).cls (hs.getD 0 0) k (xnm (G a)) && xin WL (hs.getD 1 0) (.instanceMethod (xnm (G a))) && decide ((xnm (G a)).name = "<init>") && decide (xhs (G a) = []) && decide (xrt (G a) = none) && Nat.blt 0 b && xpar (G a) (b - 1) && xroom M (G a)) = true → (xS (xpop b [] st) fun q => match (generalizing := false) q.1 with | .ref o :: as => xcall G (xrun V F G fu) M pc nx lo a (.ref o :: as) q.2 h | _ => none) = some (o, hf) → W p l e R s m args below meth c H locs (h.2.1 - N0) (h.2.2 - S0) (xQ D cl H0 s below o hf N0 S0) (F0 m pc ls st) := by
      clear hrun hok
      intro hok hrun
      simp only [Bool.and_eq_true] at hok
      obtain ⟨⟨⟨⟨⟨⟨⟨⟨⟨hok, o1⟩, o2⟩, o3⟩, o4⟩, o4b⟩, o4c⟩, o5⟩, o6⟩, o7⟩ := hok
      obtain ⟨hd, rfl⟩ := xdec_spec hok
      obtain ⟨⟨as, rs⟩, hq, hrun1⟩ := xS_s hrun
      clear hrun
      have hrun := hrun1
      clear hrun1
      obtain ⟨hlen, rfl⟩ := xpop_nil hq
      have hz : a < nG := by simpa using o1
      have hb0 : 0 < b := by simpa using o5
      dsimp only at hrun
      split at hrun
      · next ob as' =>
        exact x_call ih hG C hz hrun hd o7 hN hS hRc hRs hR hL hl (fun T hT X mk hmk => x_entI X hx hb hown hsf.1 (hG a hz).1 o2 (xin_mem o3) (of_decide_eq_true o4) (of_decide_eq_true o4b) (of_decide_eq_true o4c) o6 (by simp only [List.length_cons] at hlen; omega) hmk hd)
      · cases hrun
    cases v with
    | null =>
      replace hrun : (xA1 st fun _ st => xB (Nat.ble (xwt st) 8) (xrun V F G fu M (nx, lo, st) h)) = some (o, hf) := hrun
      replace hok : (xdec M pc nx (.invokespecial k) 3 && xin WL (hs.getD 0 0) (.methodLink (xnm M).cls k Lib.objectInit) && xin WL (hs.getD 1 0) (.instanceMethod Lib.objectInit) && xin WL (hs.getD 2 0) (.code Lib.objectInit ⟨#[0xb1]⟩ 1 none) && Nat.ble 1 (xdp M) && Nat.ble 20 (xlc M)) = true := hok
      simp only [Bool.and_eq_true] at hok
      obtain ⟨⟨⟨⟨⟨hok, o1⟩, o2⟩, o3⟩, o4⟩, o5⟩ := hok
      obtain ⟨hd, rfl⟩ := xdec_spec hok
      obtain ⟨ob, st, rfl, hrun1⟩ := xA1_s hrun
      clear hrun
      have hrun := hrun1
      clear hrun1
      obtain ⟨h1, hrun1⟩ := xB_s hrun
      clear hrun
      have hrun := hrun1
      clear hrun1
      have h1 := Nat.le_of_ble_eq_true h1
      have o4 := Nat.le_of_ble_eq_true o4
      have o5 := Nat.le_of_ble_eq_true o5
      rw [xwt_eq] at h1
      exact W.objInit hx hb hown (hts _ (xin_mem o1)) (hts _ (xin_mem o2)) (hts _ (xin_mem o3)) rfl (by rw [hml]; exact hL.1) rfl hd (Nat.le_trans o4 hfr) (by show 2 * 0 + _ + 12 ≤ _; omega) (sm _ _ _ hrun ls hL)
    | int x => exact rest hok hrun
    | long x => exact rest hok hrun
    | float x => exact rest hok hrun
    | double x => exact rest hok hrun
    | ref x => exact rest hok hrun
    | retAddr x => exact rest hok hrun
  | _ => cases hrun
