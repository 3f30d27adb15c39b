section XEQ
variable {V : Nat → Value} {W : xM → xF → xH → Option xR}
theorem E_Law_impose (hW : ∀ M f h, W M f h = xbody V xF0 xG W M f h) :
    (∀ (x0 x4 : Nat) (x1 x2 x3 : Int32) (h : xH), W m_Law_impose (0, [some (.ref x0), some (.int x1), some (.int x2), some (.int x3), some (.ref x4), none], []) h = xret W m_Law_impose 7 10 [some (.ref x0), some (.int x1), some (.int x2), some (.int x3), some (.ref x4), none] [(.int (Int32.ofInt 0)), (.ref x4)] (xrc 0 (h.1 x0) (W m_Room_impose (0, [some (.ref x0), some (.int x1), some (.int x2), some (.int x3), none], []) h))) ∧
    (∀ (x0 x4 y2 : Nat) (x1 x2 x3 y0 y1 : Int32) (h : xH), W m_Law_impose (10, [some (.ref x0), some (.int x1), some (.int x2), some (.int x3), some (.ref x4), none], [(.int y0), (.int y1), (.ref y2)]) h = xthn W m_Law_impose 12 [some (.ref x0), some (.int x1), some (.int x2), some (.int x3), some (.ref x4), none] [] (xstL (h.1 y2) h y2 y1 (Int32.toInt64 y0))) ∧
    (∀ (x0 x4 : Nat) (x1 x2 x3 : Int32) (h : xH), W m_Law_impose (12, [some (.ref x0), some (.int x1), some (.int x2), some (.int x3), some (.ref x4), none], []) h = some (.inl (some (.int (Int32.ofInt 0))), h)) ∧
    (∀ (x0 x4 y0 : Nat) (x1 x2 x3 : Int32) (h : xH), W m_Law_impose (15, [some (.ref x0), some (.int x1), some (.int x2), some (.int x3), some (.ref x4), none], [(.ref y0)]) h = some (.inl (some (.int (Int32.ofInt 1))), h)) :=
  ⟨fun _ _ _ _ _ _ => (xW_k hW 7 _ _ _).trans xq_rc,
   fun _ _ _ _ _ _ _ _ _ => (xW_k hW 2 _ _ _).trans xq_stL,
   fun _ _ _ _ _ _ => (xW_k hW 3 _ _ _).trans rfl,
   fun _ _ _ _ _ _ _ => (xW_k hW 3 _ _ _).trans rfl⟩
theorem E_Room_impose (hW : ∀ M f h, W M f h = xbody V xF0 xG W M f h) :
    (∀ (x0 : Nat) (x1 x2 x3 : Int32) (h : xH), W m_Room_impose (0, [some (.ref x0), some (.int x1), some (.int x2), some (.int x3), none], []) h = xret W m_Room_impose 3 6 [some (.ref x0), some (.int x1), some (.int x2), some (.int x3), none] [] (W m_Room_needBetween (0, [some (.int x2), some (.int (Int32.ofInt 1)), some (.int (Int32.ofInt 4))], []) h)) ∧
    (∀ (x0 : Nat) (x1 x2 x3 : Int32) (h : xH), W m_Room_impose (6, [some (.ref x0), some (.int x1), some (.int x2), some (.int x3), none], []) h = xret W m_Room_impose 11 14 [some (.ref x0), some (.int x1), some (.int x2), some (.int x3), none] [] (W m_Room_needBetween (0, [some (.int x3), some (.int (Int32.ofInt 0)), some (.int (Int32.ofInt 1000))], []) h)) ∧
    (∀ (x0 : Nat) (x1 x2 x3 : Int32) (h : xH), W m_Room_impose (14, [some (.ref x0), some (.int x1), some (.int x2), some (.int x3), none], []) h = xret W m_Room_impose 18 21 [some (.ref x0), some (.int x1), some (.int x2), some (.int x3), none] [] (W m_Room_needBetween (0, [some (.int x1), some (.int (Int32.ofInt 1)), some (.int (Int32.ofInt 64))], []) h)) ∧
    (∀ (x0 : Nat) (x1 x2 x3 : Int32) (h : xH), W m_Room_impose (21, [some (.ref x0), some (.int x1), some (.int x2), some (.int x3), none], []) h = xpush W m_Room_impose 30 [some (.ref x0), some (.int x1), some (.int x2), some (.int x3), some (.int ((Int32.ofInt 2) <<< (x2 &&& 31)))] [] h (xdv ((Int32.ofInt 2) <<< (x2 &&& 31)) (.int (x1 - x1 / ((Int32.ofInt 2) <<< (x2 &&& 31)) * ((Int32.ofInt 2) <<< (x2 &&& 31)))))) ∧
    (∀ (x0 : Nat) (x1 x2 x3 x4 y0 : Int32) (h : xH), W m_Room_impose (30, [some (.ref x0), some (.int x1), some (.int x2), some (.int x3), some (.int x4)], [(.int y0)]) h = if y0 = (Int32.ofInt 0) then W m_Room_impose (43, [some (.ref x0), some (.int x1), some (.int x2), some (.int x3), some (.int x4)], []) h else W m_Room_impose (33, [some (.ref x0), some (.int x1), some (.int x2), some (.int x3), some (.int x4)], []) h) ∧
    (∀ (x0 : Nat) (x1 x2 x3 x4 : Int32) (h : xH), W m_Room_impose (33, [some (.ref x0), some (.int x1), some (.int x2), some (.int x3), some (.int x4)], []) h = some (.inr (9, h.2.1), xnew h (xO' 9 []) 6)) ∧
    (∀ (x0 : Nat) (x1 x2 x3 x4 : Int32) (h : xH), W m_Room_impose (43, [some (.ref x0), some (.int x1), some (.int x2), some (.int x3), some (.int x4)], []) h = xpush W m_Room_impose 47 [some (.ref x0), some (.int x1), some (.int x2), some (.int x3), some (.int x4)] [] h (xfld 0 5 (h.1 x0))) ∧
    (∀ (x0 y0 : Nat) (x1 x2 x3 x4 : Int32) (h : xH), W m_Room_impose (47, [some (.ref x0), some (.int x1), some (.int x2), some (.int x3), some (.int x4)], [(.ref y0)]) h = xpush W m_Room_impose 51 [some (.ref x0), some (.int x1), some (.int x2), some (.int x3), some (.int x4)] [(.ref y0)] h (xdv x4 (.int (x1 / x4)))) ∧
    (∀ (x0 y1 : Nat) (x1 x2 x3 x4 y0 : Int32) (h : xH), W m_Room_impose (51, [some (.ref x0), some (.int x1), some (.int x2), some (.int x3), some (.int x4)], [(.int y0), (.ref y1)]) h = xret W m_Room_impose 53 56 [some (.ref x0), some (.int x1), some (.int x2), some (.int x3), some (.int x4)] [] (xrc 5 (h.1 y1) (W m_She_lay (0, [some (.ref y1), some (.int y0), some (.int x2), some (.int x3), none, none, none], []) h))) ∧
    (∀ (x0 : Nat) (x1 x2 x3 x4 : Int32) (h : xH), W m_Room_impose (56, [some (.ref x0), some (.int x1), some (.int x2), some (.int x3), some (.int x4)], []) h = xpush W m_Room_impose 60 [some (.ref x0), some (.int x1), some (.int x2), some (.int x3), some (.int x4)] [] h (xfld 0 5 (h.1 x0))) ∧
    (∀ (x0 y0 : Nat) (x1 x2 x3 x4 : Int32) (h : xH), W m_Room_impose (60, [some (.ref x0), some (.int x1), some (.int x2), some (.int x3), some (.int x4)], [(.ref y0)]) h = xret W m_Room_impose 60 63 [some (.ref x0), some (.int x1), some (.int x2), some (.int x3), some (.int x4)] [] (xrc 5 (h.1 y0) (W m_She_sheetCount (0, [some (.ref y0)], []) h))) ∧
    (∀ (x0 : Nat) (x1 x2 x3 x4 y0 : Int32) (h : xH), W m_Room_impose (63, [some (.ref x0), some (.int x1), some (.int x2), some (.int x3), some (.int x4)], [(.int y0)]) h = some (.inl (some (.int y0)), h)) :=
  ⟨fun _ _ _ _ _ => (xW_k hW 4 _ _ _).trans rfl,
   fun _ _ _ _ _ => (xW_k hW 4 _ _ _).trans rfl,
   fun _ _ _ _ _ => (xW_k hW 4 _ _ _).trans rfl,
   fun _ _ _ _ _ => (xW_k hW 7 _ _ _).trans xq_dv,
   fun _ _ _ _ _ _ _ => (xW_k hW 1 _ _ _).trans rfl,
   fun _ _ _ _ _ _ => (xW_k hW 1 _ _ _).trans rfl,
   fun _ _ _ _ _ _ => (xW_k hW 2 _ _ _).trans xq_fld,
   fun _ _ _ _ _ _ _ => (xW_k hW 3 _ _ _).trans xq_dv,
   fun _ _ _ _ _ _ _ _ => (xW_k hW 3 _ _ _).trans xq_rc,
   fun _ _ _ _ _ _ => (xW_k hW 2 _ _ _).trans xq_fld,
   fun _ _ _ _ _ _ _ => (xW_k hW 1 _ _ _).trans xq_rc,
   fun _ _ _ _ _ _ _ => (xW_k hW 1 _ _ _).trans rfl⟩
theorem X_Room_impose : xhs m_Room_impose = [] := rfl
theorem E_She_lay (hW : ∀ M f h, W M f h = xbody V xF0 xG W M f h) :
    (∀ (x0 : Nat) (x1 x2 x3 : Int32) (h : xH), W m_She_lay (0, [some (.ref x0), some (.int x1), some (.int x2), some (.int x3), none, none, none], []) h = xthn W m_She_lay 5 [some (.ref x0), some (.int x1), some (.int x2), some (.int x3), none, none, none] [] (xptf (h.1 x0) h x0 5 2 0 (.int x1))) ∧
    (∀ (x0 : Nat) (x1 x2 x3 : Int32) (h : xH), W m_She_lay (5, [some (.ref x0), some (.int x1), some (.int x2), some (.int x3), none, none, none], []) h = xthn W m_She_lay 12 [some (.ref x0), some (.int x1), some (.int x2), some (.int x3), none, none, none] [] (xptf (h.1 x0) h x0 5 3 0 (.int ((Int32.ofInt 1) <<< (x2 &&& 31))))) ∧
    (∀ (x0 : Nat) (x1 x2 x3 : Int32) (h : xH), W m_She_lay (12, [some (.ref x0), some (.int x1), some (.int x2), some (.int x3), none, none, none], []) h = xthn W m_She_lay 17 [some (.ref x0), some (.int x1), some (.int x2), some (.int x3), none, none, none] [] (xptf (h.1 x0) h x0 5 4 0 (.int x3))) ∧
    (∀ (x0 : Nat) (x1 x2 x3 : Int32) (h : xH), W m_She_lay (17, [some (.ref x0), some (.int x1), some (.int x2), some (.int x3), none, none, none], []) h = if (Int32.ofInt 3) ≤ x2 then W m_She_lay (26, [some (.ref x0), some (.int x1), some (.int x2), some (.int x3), none, none, none], []) h else W m_She_lay (22, [some (.ref x0), some (.int x1), some (.int x2), some (.int x3), none, none, none], []) h) ∧
    (∀ (x0 : Nat) (x1 x2 x3 : Int32) (h : xH), W m_She_lay (22, [some (.ref x0), some (.int x1), some (.int x2), some (.int x3), none, none, none], []) h = W m_She_lay (32, [some (.ref x0), some (.int x1), some (.int x2), some (.int x3), some (.int (Int32.ofInt 2)), some (.int (Int32.ofInt 0)), none], []) h) ∧
    (∀ (x0 : Nat) (x1 x2 x3 : Int32) (h : xH), W m_She_lay (26, [some (.ref x0), some (.int x1), some (.int x2), some (.int x3), none, none, none], []) h = W m_She_lay (32, [some (.ref x0), some (.int x1), some (.int x2), some (.int x3), some (.int (Int32.ofInt 4)), some (.int (Int32.ofInt 0)), none], []) h) ∧
    (∀ (x0 : Nat) (x1 x2 x3 x4 x5 y0 y1 : Int32) (x6 : Option Value) (h : xH), W m_She_lay (38, [some (.ref x0), some (.int x1), some (.int x2), some (.int x3), some (.int x4), some (.int x5), x6], [(.int y0), (.int y1)]) h = if y0 ≤ y1 then W m_She_lay (92, [some (.ref x0), some (.int x1), some (.int x2), some (.int x3), some (.int x4), some (.int x5), x6], []) h else W m_She_lay (41, [some (.ref x0), some (.int x1), some (.int x2), some (.int x3), some (.int x4), some (.int x5), x6], []) h) ∧
    (∀ (x0 : Nat) (x1 x2 x3 x4 x5 : Int32) (x6 : Option Value) (h : xH), W m_She_lay (41, [some (.ref x0), some (.int x1), some (.int x2), some (.int x3), some (.int x4), some (.int x5), x6], []) h = xpush W m_She_lay 45 [some (.ref x0), some (.int x1), some (.int x2), some (.int x3), some (.int x4), some (.int x5), x6] [] h (xfld 5 0 (h.1 x0))) ∧
    (∀ (x0 y0 : Nat) (x1 x2 x3 x4 x5 : Int32) (x6 : Option Value) (h : xH), W m_She_lay (45, [some (.ref x0), some (.int x1), some (.int x2), some (.int x3), some (.int x4), some (.int x5), x6], [(.ref y0)]) h = xpush W m_She_lay 48 [some (.ref x0), some (.int x1), some (.int x2), some (.int x3), some (.int x4), some (.int x5), x6] [] h (xldR (h.1 y0) x5)) ∧
    (∀ (x0 y0 : Nat) (x1 x2 x3 x4 x5 : Int32) (x6 : Option Value) (h : xH), W m_She_lay (48, [some (.ref x0), some (.int x1), some (.int x2), some (.int x3), some (.int x4), some (.int x5), x6], [(.ref y0)]) h = xpush W m_She_lay 57 [some (.ref x0), some (.int x1), some (.int x2), some (.int x3), some (.int x4), some (.int x5), some (.ref y0)] [(.ref y0)] h (xdv x4 (.int (x5 - x5 / x4 * x4)))) ∧
    (∀ (x0 x6 y1 : Nat) (x1 x2 x3 x4 x5 y0 : Int32) (h : xH), W m_She_lay (57, [some (.ref x0), some (.int x1), some (.int x2), some (.int x3), some (.int x4), some (.int x5), some (.ref x6)], [(.int y0), (.ref y1)]) h = xpush W m_She_lay 62 [some (.ref x0), some (.int x1), some (.int x2), some (.int x3), some (.int x4), some (.int x5), some (.ref x6)] [(.int y0), (.ref y1)] h (xdv x4 (.int (x5 / x4)))) ∧
    (∀ (x0 x6 y2 : Nat) (x1 x2 x3 x4 x5 y0 y1 : Int32) (h : xH), W m_She_lay (62, [some (.ref x0), some (.int x1), some (.int x2), some (.int x3), some (.int x4), some (.int x5), some (.ref x6)], [(.int y0), (.int y1), (.ref y2)]) h = xret W m_She_lay 62 65 [some (.ref x0), some (.int x1), some (.int x2), some (.int x3), some (.int x4), some (.int x5), some (.ref x6)] [] (xrc 6 (h.1 y2) (W m_Leaf_start (0, [some (.ref y2), some (.int y1), some (.int y0)], []) h))) ∧
    (∀ (x0 x6 : Nat) (x1 x2 x3 x4 x5 : Int32) (h : xH), W m_She_lay (65, [some (.ref x0), some (.int x1), some (.int x2), some (.int x3), some (.int x4), some (.int x5), some (.ref x6)], []) h = xret W m_She_lay 71 74 [some (.ref x0), some (.int x1), some (.int x2), some (.int x3), some (.int x4), some (.int x5), some (.ref x6)] [] (xrc 5 (h.1 x0) (W m_She_fold (0, [some (.ref x0), some (.ref x6), some (.int x2), some (.int x4), none, none, none, none], []) h))) ∧
    (∀ (x0 x6 : Nat) (x1 x2 x3 x4 x5 : Int32) (h : xH), W m_She_lay (74, [some (.ref x0), some (.int x1), some (.int x2), some (.int x3), some (.int x4), some (.int x5), some (.ref x6)], []) h = xpush W m_She_lay 78 [some (.ref x0), some (.int x1), some (.int x2), some (.int x3), some (.int x4), some (.int x5), some (.ref x6)] [] h (xfld 5 1 (h.1 x0))) ∧
    (∀ (x0 x6 y0 : Nat) (x1 x2 x3 x4 x5 : Int32) (h : xH), W m_She_lay (78, [some (.ref x0), some (.int x1), some (.int x2), some (.int x3), some (.int x4), some (.int x5), some (.ref x6)], [(.ref y0)]) h = xret W m_She_lay 80 83 [some (.ref x0), some (.int x1), some (.int x2), some (.int x3), some (.int x4), some (.int x5), some (.ref x6)] [(.ref y0)] (xrc 6 (h.1 x6) (W m_Leaf_leavesAbove (0, [some (.ref x6)], []) h))) ∧
    (∀ (x0 x6 y1 : Nat) (x1 x2 x3 x4 x5 y0 : Int32) (h : xH), W m_She_lay (83, [some (.ref x0), some (.int x1), some (.int x2), some (.int x3), some (.int x4), some (.int x5), some (.ref x6)], [(.int y0), (.ref y1)]) h = xthn W m_She_lay 86 [some (.ref x0), some (.int x1), some (.int x2), some (.int x3), some (.int x4), some (.int x5), some (.ref x6)] [] (xstI (h.1 y1) h y1 y0 x5)) ∧
    (∀ (x0 x6 : Nat) (x1 x2 x3 x4 x5 : Int32) (h : xH), W m_She_lay (86, [some (.ref x0), some (.int x1), some (.int x2), some (.int x3), some (.int x4), some (.int x5), some (.ref x6)], []) h = W m_She_lay (32, [some (.ref x0), some (.int x1), some (.int x2), some (.int x3), some (.int x4), some (.int (x5 + (Int32.ofInt 1))), some (.ref x6)], []) h) ∧
    (∀ (x0 : Nat) (x1 x2 x3 x4 x5 : Int32) (x6 : Option Value) (h : xH), W m_She_lay (92, [some (.ref x0), some (.int x1), some (.int x2), some (.int x3), some (.int x4), some (.int x5), x6], []) h = some (.inl none, h)) :=
  ⟨fun _ _ _ _ _ => (xW_k hW 3 _ _ _).trans xq_ptf,
   fun _ _ _ _ _ => (xW_k hW 5 _ _ _).trans xq_ptf,
   fun _ _ _ _ _ => (xW_k hW 3 _ _ _).trans xq_ptf,
   fun _ _ _ _ _ => (xW_k hW 3 _ _ _).trans rfl,
   fun _ _ _ _ _ => (xW_k hW 5 _ _ _).trans rfl,
   fun _ _ _ _ _ => (xW_k hW 4 _ _ _).trans rfl,
   fun _ _ _ _ _ _ _ _ _ _ => (xW_k hW 1 _ _ _).trans rfl,
   fun _ _ _ _ _ _ _ _ => (xW_k hW 2 _ _ _).trans xq_fld,
   fun _ _ _ _ _ _ _ _ _ => (xW_k hW 2 _ _ _).trans xq_ldR,
   fun _ _ _ _ _ _ _ _ _ => (xW_k hW 5 _ _ _).trans xq_dv,
   fun _ _ _ _ _ _ _ _ _ _ => (xW_k hW 3 _ _ _).trans xq_dv,
   fun _ _ _ _ _ _ _ _ _ _ _ => (xW_k hW 1 _ _ _).trans xq_rc,
   fun _ _ _ _ _ _ _ _ => (xW_k hW 5 _ _ _).trans xq_rc,
   fun _ _ _ _ _ _ _ _ => (xW_k hW 2 _ _ _).trans xq_fld,
   fun _ _ _ _ _ _ _ _ _ => (xW_k hW 2 _ _ _).trans xq_rc,
   fun _ _ _ _ _ _ _ _ _ _ => (xW_k hW 2 _ _ _).trans xq_stI,
   fun _ _ _ _ _ _ _ _ => (xW_k hW 2 _ _ _).trans rfl,
   fun _ _ _ _ _ _ _ _ => (xW_k hW 1 _ _ _).trans rfl⟩
theorem L_She_lay_32 (hW : ∀ M f h, W M f h = xbody V xF0 xG W M f h) :
    (∀ (x0 : Nat) (x1 x2 x3 x4 x5 : Int32) (x6 : Option Value) (h : xH), W m_She_lay (32, [some (.ref x0), some (.int x1), some (.int x2), some (.int x3), some (.int x4), some (.int x5), x6], []) h = xpush W m_She_lay 38 [some (.ref x0), some (.int x1), some (.int x2), some (.int x3), some (.int x4), some (.int x5), x6] [(.int x5)] h (xfld 5 3 (h.1 x0))) :=
  fun _ _ _ _ _ _ _ _ => (xW_k hW 3 _ _ _).trans xq_fld
theorem X_She_lay : xhs m_She_lay = [] := rfl
theorem E_Leaf_start (hW : ∀ M f h, W M f h = xbody V xF0 xG W M f h) :
    (∀ (x0 : Nat) (x1 x2 : Int32) (h : xH), W m_Leaf_start (0, [some (.ref x0), some (.int x1), some (.int x2)], []) h = xthn W m_Leaf_start 5 [some (.ref x0), some (.int x1), some (.int x2)] [] (xptf (h.1 x0) h x0 6 0 0 (.int x1))) ∧
    (∀ (x0 : Nat) (x1 x2 : Int32) (h : xH), W m_Leaf_start (5, [some (.ref x0), some (.int x1), some (.int x2)], []) h = xthn W m_Leaf_start 10 [some (.ref x0), some (.int x1), some (.int x2)] [] (xptf (h.1 x0) h x0 6 1 0 (.int x2))) ∧
    (∀ (x0 : Nat) (x1 x2 : Int32) (h : xH), W m_Leaf_start (10, [some (.ref x0), some (.int x1), some (.int x2)], []) h = xthn W m_Leaf_start 15 [some (.ref x0), some (.int x1), some (.int x2)] [] (xptf (h.1 x0) h x0 6 2 0 (.int (Int32.ofInt 0)))) ∧
    (∀ (x0 : Nat) (x1 x2 : Int32) (h : xH), W m_Leaf_start (15, [some (.ref x0), some (.int x1), some (.int x2)], []) h = xthn W m_Leaf_start 20 [some (.ref x0), some (.int x1), some (.int x2)] [] (xptf (h.1 x0) h x0 6 3 0 (.int (Int32.ofInt 0)))) ∧
    (∀ (x0 : Nat) (x1 x2 : Int32) (h : xH), W m_Leaf_start (20, [some (.ref x0), some (.int x1), some (.int x2)], []) h = xthn W m_Leaf_start 25 [some (.ref x0), some (.int x1), some (.int x2)] [] (xptf (h.1 x0) h x0 6 4 0 (.int (Int32.ofInt 0)))) ∧
    (∀ (x0 : Nat) (x1 x2 : Int32) (h : xH), W m_Leaf_start (25, [some (.ref x0), some (.int x1), some (.int x2)], []) h = some (.inl none, h)) :=
  ⟨fun _ _ _ _ => (xW_k hW 3 _ _ _).trans xq_ptf,
   fun _ _ _ _ => (xW_k hW 3 _ _ _).trans xq_ptf,
   fun _ _ _ _ => (xW_k hW 3 _ _ _).trans xq_ptf,
   fun _ _ _ _ => (xW_k hW 3 _ _ _).trans xq_ptf,
   fun _ _ _ _ => (xW_k hW 3 _ _ _).trans xq_ptf,
   fun _ _ _ _ => (xW_k hW 1 _ _ _).trans rfl⟩
theorem X_Leaf_start : xhs m_Leaf_start = [] := rfl
theorem E_She_fold (hW : ∀ M f h, W M f h = xbody V xF0 xG W M f h) :
    (∀ (x0 x1 : Nat) (x2 x3 : Int32) (h : xH), W m_She_fold (0, [some (.ref x0), some (.ref x1), some (.int x2), some (.int x3), none, none, none, none], []) h = xpush W m_She_fold 7 [some (.ref x0), some (.ref x1), some (.int x2), some (.int x3), some (.int x3), none, none, none] [] h (xfld 5 3 (h.1 x0))) ∧
    (∀ (x0 x1 : Nat) (x2 x3 x4 y0 : Int32) (h : xH), W m_She_fold (7, [some (.ref x0), some (.ref x1), some (.int x2), some (.int x3), some (.int x4), none, none, none], [(.int y0)]) h = xpush W m_She_fold 9 [some (.ref x0), some (.ref x1), some (.int x2), some (.int x3), some (.int x4), none, none, none] [] h (xdv x3 (.int (y0 / x3)))) ∧
    (∀ (x0 x1 : Nat) (x2 x3 x4 y0 : Int32) (h : xH), W m_She_fold (9, [some (.ref x0), some (.ref x1), some (.int x2), some (.int x3), some (.int x4), none, none, none], [(.int y0)]) h = W m_She_fold (17, [some (.ref x0), some (.ref x1), some (.int x2), some (.int x3), some (.int x4), some (.int y0), some (.int (Int32.ofInt 1)), some (.int (Int32.ofInt 1))], []) h) ∧
    (∀ (x0 x1 : Nat) (x2 x3 x4 x5 x6 x7 : Int32) (h : xH), W m_She_fold (23, [some (.ref x0), some (.ref x1), some (.int x2), some (.int x3), some (.int x4), some (.int x5), some (.int x6), some (.int x7)], []) h = if (x7 - x7 / (Int32.ofInt 2) * (Int32.ofInt 2)) = (Int32.ofInt 1) then W m_She_fold (31, [some (.ref x0), some (.ref x1), some (.int x2), some (.int x3), some (.int x4), some (.int x5), some (.int x6), some (.int x7)], []) h else W m_She_fold (48, [some (.ref x0), some (.ref x1), some (.int x2), some (.int x3), some (.int x4), some (.int x5), some (.int x6), some (.int x7)], []) h) ∧
    (∀ (x0 x1 : Nat) (x2 x3 x4 x5 x6 x7 : Int32) (h : xH), W m_She_fold (31, [some (.ref x0), some (.ref x1), some (.int x2), some (.int x3), some (.int x4), some (.int x5), some (.int x6), some (.int x7)], []) h = xret W m_She_fold 36 39 [some (.ref x0), some (.ref x1), some (.int x2), some (.int x3), some (.int x4), some (.int x5), some (.int x6), some (.int x7)] [] (xrc 6 (h.1 x1) (W m_Leaf_foldRightOnLeft (0, [some (.ref x1), some (.int x4), some (.int x6)], []) h))) ∧
    (∀ (x0 x1 : Nat) (x2 x3 x4 x5 x6 x7 : Int32) (h : xH), W m_She_fold (39, [some (.ref x0), some (.ref x1), some (.int x2), some (.int x3), some (.int x4), some (.int x5), some (.int x6), some (.int x7)], []) h = W m_She_fold (17, [some (.ref x0), some (.ref x1), some (.int x2), some (.int x3), some (.int (x4 / (Int32.ofInt 2))), some (.int x5), some (.int (x6 * (Int32.ofInt 2))), some (.int (x7 + (Int32.ofInt 1)))], []) h) ∧
    (∀ (x0 x1 : Nat) (x2 x3 x4 x5 x6 x7 : Int32) (h : xH), W m_She_fold (48, [some (.ref x0), some (.ref x1), some (.int x2), some (.int x3), some (.int x4), some (.int x5), some (.int x6), some (.int x7)], []) h = xret W m_She_fold 53 56 [some (.ref x0), some (.ref x1), some (.int x2), some (.int x3), some (.int x4), some (.int x5), some (.int x6), some (.int x7)] [] (xrc 6 (h.1 x1) (W m_Leaf_foldLowerOnUpper (0, [some (.ref x1), some (.int x5), some (.int x6)], []) h))) ∧
    (∀ (x0 x1 : Nat) (x2 x3 x4 x5 x6 x7 : Int32) (h : xH), W m_She_fold (56, [some (.ref x0), some (.ref x1), some (.int x2), some (.int x3), some (.int x4), some (.int x5), some (.int x6), some (.int x7)], []) h = W m_She_fold (17, [some (.ref x0), some (.ref x1), some (.int x2), some (.int x3), some (.int x4), some (.int (x5 / (Int32.ofInt 2))), some (.int (x6 * (Int32.ofInt 2))), some (.int (x7 + (Int32.ofInt 1)))], []) h) ∧
    (∀ (x0 x1 : Nat) (x2 x3 x4 x5 x6 x7 : Int32) (h : xH), W m_She_fold (74, [some (.ref x0), some (.ref x1), some (.int x2), some (.int x3), some (.int x4), some (.int x5), some (.int x6), some (.int x7)], []) h = some (.inl none, h)) :=
  ⟨fun _ _ _ _ _ => (xW_k hW 4 _ _ _).trans xq_fld,
   fun _ _ _ _ _ _ _ => (xW_k hW 2 _ _ _).trans xq_dv,
   fun _ _ _ _ _ _ _ => (xW_k hW 5 _ _ _).trans rfl,
   fun _ _ _ _ _ _ _ _ _ => (xW_k hW 5 _ _ _).trans rfl,
   fun _ _ _ _ _ _ _ _ _ => (xW_k hW 4 _ _ _).trans xq_rc,
   fun _ _ _ _ _ _ _ _ _ => (xW_k hW 11 _ _ _).trans rfl,
   fun _ _ _ _ _ _ _ _ _ => (xW_k hW 4 _ _ _).trans xq_rc,
   fun _ _ _ _ _ _ _ _ _ => (xW_k hW 10 _ _ _).trans rfl,
   fun _ _ _ _ _ _ _ _ _ => (xW_k hW 1 _ _ _).trans rfl⟩
theorem L_She_fold_17 (hW : ∀ M f h, W M f h = xbody V xF0 xG W M f h) :
    (∀ (x0 x1 : Nat) (x2 x3 x4 x5 x6 x7 : Int32) (h : xH), W m_She_fold (17, [some (.ref x0), some (.ref x1), some (.int x2), some (.int x3), some (.int x4), some (.int x5), some (.int x6), some (.int x7)], []) h = if x2 < x7 then W m_She_fold (74, [some (.ref x0), some (.ref x1), some (.int x2), some (.int x3), some (.int x4), some (.int x5), some (.int x6), some (.int x7)], []) h else W m_She_fold (23, [some (.ref x0), some (.ref x1), some (.int x2), some (.int x3), some (.int x4), some (.int x5), some (.int x6), some (.int x7)], []) h) :=
  fun _ _ _ _ _ _ _ _ _ => (xW_k hW 3 _ _ _).trans rfl
theorem X_She_fold : xhs m_She_fold = [] := rfl
theorem E_Leaf_foldRightOnLeft (hW : ∀ M f h, W M f h = xbody V xF0 xG W M f h) :
    (∀ (x0 : Nat) (x1 x2 : Int32) (h : xH), W m_Leaf_foldRightOnLeft (0, [some (.ref x0), some (.int x1), some (.int x2)], []) h = xpush W m_Leaf_foldRightOnLeft 4 [some (.ref x0), some (.int x1), some (.int x2)] [] h (xfld 6 0 (h.1 x0))) ∧
    (∀ (x0 : Nat) (x1 x2 y0 : Int32) (h : xH), W m_Leaf_foldRightOnLeft (4, [some (.ref x0), some (.int x1), some (.int x2)], [(.int y0)]) h = if (x1 / (Int32.ofInt 2)) ≤ y0 then W m_Leaf_foldRightOnLeft (21, [some (.ref x0), some (.int x1), some (.int x2)], []) h else W m_Leaf_foldRightOnLeft (10, [some (.ref x0), some (.int x1), some (.int x2)], []) h) ∧
    (∀ (x0 : Nat) (x1 x2 : Int32) (h : xH), W m_Leaf_foldRightOnLeft (10, [some (.ref x0), some (.int x1), some (.int x2)], []) h = xpush W m_Leaf_foldRightOnLeft 15 [some (.ref x0), some (.int x1), some (.int x2)] [(.ref x0)] h (xfld 6 2 (h.1 x0))) ∧
    (∀ (x0 y1 : Nat) (x1 x2 y0 : Int32) (h : xH), W m_Leaf_foldRightOnLeft (15, [some (.ref x0), some (.int x1), some (.int x2)], [(.int y0), (.ref y1)]) h = xthn W m_Leaf_foldRightOnLeft 20 [some (.ref x0), some (.int x1), some (.int x2)] [] (xptf (h.1 y1) h y1 6 2 0 (.int (y0 + x2)))) ∧
    (∀ (x0 : Nat) (x1 x2 : Int32) (h : xH), W m_Leaf_foldRightOnLeft (20, [some (.ref x0), some (.int x1), some (.int x2)], []) h = some (.inl none, h)) ∧
    (∀ (x0 : Nat) (x1 x2 : Int32) (h : xH), W m_Leaf_foldRightOnLeft (21, [some (.ref x0), some (.int x1), some (.int x2)], []) h = xpush W m_Leaf_foldRightOnLeft 29 [some (.ref x0), some (.int x1), some (.int x2)] [(.int (x1 - (Int32.ofInt 1))), (.ref x0)] h (xfld 6 0 (h.1 x0))) ∧
    (∀ (x0 y2 : Nat) (x1 x2 y0 y1 : Int32) (h : xH), W m_Leaf_foldRightOnLeft (29, [some (.ref x0), some (.int x1), some (.int x2)], [(.int y0), (.int y1), (.ref y2)]) h = xthn W m_Leaf_foldRightOnLeft 33 [some (.ref x0), some (.int x1), some (.int x2)] [] (xptf (h.1 y2) h y2 6 0 0 (.int (y1 - y0)))) ∧
    (∀ (x0 : Nat) (x1 x2 : Int32) (h : xH), W m_Leaf_foldRightOnLeft (33, [some (.ref x0), some (.int x1), some (.int x2)], []) h = xret W m_Leaf_foldRightOnLeft 35 38 [some (.ref x0), some (.int x1), some (.int x2)] [] (xrc 6 (h.1 x0) (W m_Leaf_turnOver (0, [some (.ref x0), some (.int x2)], []) h))) ∧
    (∀ (x0 : Nat) (x1 x2 : Int32) (h : xH), W m_Leaf_foldRightOnLeft (38, [some (.ref x0), some (.int x1), some (.int x2)], []) h = some (.inl none, h)) :=
  ⟨fun _ _ _ _ => (xW_k hW 2 _ _ _).trans xq_fld,
   fun _ _ _ _ _ => (xW_k hW 4 _ _ _).trans rfl,
   fun _ _ _ _ => (xW_k hW 3 _ _ _).trans xq_fld,
   fun _ _ _ _ _ _ => (xW_k hW 3 _ _ _).trans xq_ptf,
   fun _ _ _ _ => (xW_k hW 1 _ _ _).trans rfl,
   fun _ _ _ _ => (xW_k hW 6 _ _ _).trans xq_fld,
   fun _ _ _ _ _ _ _ => (xW_k hW 2 _ _ _).trans xq_ptf,
   fun _ _ _ _ => (xW_k hW 3 _ _ _).trans xq_rc,
   fun _ _ _ _ => (xW_k hW 1 _ _ _).trans rfl⟩
theorem X_Leaf_foldRightOnLeft : xhs m_Leaf_foldRightOnLeft = [] := rfl
theorem E_Leaf_turnOver (hW : ∀ M f h, W M f h = xbody V xF0 xG W M f h) :
    (∀ (x0 : Nat) (x1 : Int32) (h : xH), W m_Leaf_turnOver (0, [some (.ref x0), some (.int x1)], []) h = xpush W m_Leaf_turnOver 8 [some (.ref x0), some (.int x1)] [(.int (x1 - (Int32.ofInt 1))), (.ref x0)] h (xfld 6 2 (h.1 x0))) ∧
    (∀ (x0 y2 : Nat) (x1 y0 y1 : Int32) (h : xH), W m_Leaf_turnOver (8, [some (.ref x0), some (.int x1)], [(.int y0), (.int y1), (.ref y2)]) h = xthn W m_Leaf_turnOver 12 [some (.ref x0), some (.int x1)] [] (xptf (h.1 y2) h y2 6 2 0 (.int (y1 - y0)))) ∧
    (∀ (x0 : Nat) (x1 : Int32) (h : xH), W m_Leaf_turnOver (12, [some (.ref x0), some (.int x1)], []) h = xpush W m_Leaf_turnOver 18 [some (.ref x0), some (.int x1)] [(.int (Int32.ofInt 1)), (.ref x0)] h (xfld 6 3 (h.1 x0))) ∧
    (∀ (x0 y2 : Nat) (x1 y0 y1 : Int32) (h : xH), W m_Leaf_turnOver (18, [some (.ref x0), some (.int x1)], [(.int y0), (.int y1), (.ref y2)]) h = xthn W m_Leaf_turnOver 22 [some (.ref x0), some (.int x1)] [] (xptf (h.1 y2) h y2 6 3 0 (.int (y1 - y0)))) ∧
    (∀ (x0 : Nat) (x1 : Int32) (h : xH), W m_Leaf_turnOver (22, [some (.ref x0), some (.int x1)], []) h = some (.inl none, h)) :=
  ⟨fun _ _ _ => (xW_k hW 6 _ _ _).trans xq_fld,
   fun _ _ _ _ _ _ => (xW_k hW 2 _ _ _).trans xq_ptf,
   fun _ _ _ => (xW_k hW 4 _ _ _).trans xq_fld,
   fun _ _ _ _ _ _ => (xW_k hW 2 _ _ _).trans xq_ptf,
   fun _ _ _ => (xW_k hW 1 _ _ _).trans rfl⟩
theorem X_Leaf_turnOver : xhs m_Leaf_turnOver = [] := rfl
theorem E_Leaf_foldLowerOnUpper (hW : ∀ M f h, W M f h = xbody V xF0 xG W M f h) :
    (∀ (x0 : Nat) (x1 x2 : Int32) (h : xH), W m_Leaf_foldLowerOnUpper (0, [some (.ref x0), some (.int x1), some (.int x2)], []) h = xpush W m_Leaf_foldLowerOnUpper 4 [some (.ref x0), some (.int x1), some (.int x2)] [] h (xfld 6 1 (h.1 x0))) ∧
    (∀ (x0 : Nat) (x1 x2 y0 : Int32) (h : xH), W m_Leaf_foldLowerOnUpper (4, [some (.ref x0), some (.int x1), some (.int x2)], [(.int y0)]) h = if (x1 / (Int32.ofInt 2)) ≤ y0 then W m_Leaf_foldLowerOnUpper (21, [some (.ref x0), some (.int x1), some (.int x2)], []) h else W m_Leaf_foldLowerOnUpper (10, [some (.ref x0), some (.int x1), some (.int x2)], []) h) ∧
    (∀ (x0 : Nat) (x1 x2 : Int32) (h : xH), W m_Leaf_foldLowerOnUpper (10, [some (.ref x0), some (.int x1), some (.int x2)], []) h = xpush W m_Leaf_foldLowerOnUpper 15 [some (.ref x0), some (.int x1), some (.int x2)] [(.ref x0)] h (xfld 6 2 (h.1 x0))) ∧
    (∀ (x0 y1 : Nat) (x1 x2 y0 : Int32) (h : xH), W m_Leaf_foldLowerOnUpper (15, [some (.ref x0), some (.int x1), some (.int x2)], [(.int y0), (.ref y1)]) h = xthn W m_Leaf_foldLowerOnUpper 20 [some (.ref x0), some (.int x1), some (.int x2)] [] (xptf (h.1 y1) h y1 6 2 0 (.int (y0 + x2)))) ∧
    (∀ (x0 : Nat) (x1 x2 : Int32) (h : xH), W m_Leaf_foldLowerOnUpper (20, [some (.ref x0), some (.int x1), some (.int x2)], []) h = some (.inl none, h)) ∧
    (∀ (x0 : Nat) (x1 x2 : Int32) (h : xH), W m_Leaf_foldLowerOnUpper (21, [some (.ref x0), some (.int x1), some (.int x2)], []) h = xpush W m_Leaf_foldLowerOnUpper 29 [some (.ref x0), some (.int x1), some (.int x2)] [(.int (x1 - (Int32.ofInt 1))), (.ref x0)] h (xfld 6 1 (h.1 x0))) ∧
    (∀ (x0 y2 : Nat) (x1 x2 y0 y1 : Int32) (h : xH), W m_Leaf_foldLowerOnUpper (29, [some (.ref x0), some (.int x1), some (.int x2)], [(.int y0), (.int y1), (.ref y2)]) h = xthn W m_Leaf_foldLowerOnUpper 33 [some (.ref x0), some (.int x1), some (.int x2)] [] (xptf (h.1 y2) h y2 6 1 0 (.int (y1 - y0)))) ∧
    (∀ (x0 : Nat) (x1 x2 : Int32) (h : xH), W m_Leaf_foldLowerOnUpper (33, [some (.ref x0), some (.int x1), some (.int x2)], []) h = xret W m_Leaf_foldLowerOnUpper 35 38 [some (.ref x0), some (.int x1), some (.int x2)] [] (xrc 6 (h.1 x0) (W m_Leaf_turnOver (0, [some (.ref x0), some (.int x2)], []) h))) ∧
    (∀ (x0 : Nat) (x1 x2 : Int32) (h : xH), W m_Leaf_foldLowerOnUpper (38, [some (.ref x0), some (.int x1), some (.int x2)], []) h = xpush W m_Leaf_foldLowerOnUpper 44 [some (.ref x0), some (.int x1), some (.int x2)] [(.int (Int32.ofInt 1)), (.ref x0)] h (xfld 6 4 (h.1 x0))) ∧
    (∀ (x0 y2 : Nat) (x1 x2 y0 y1 : Int32) (h : xH), W m_Leaf_foldLowerOnUpper (44, [some (.ref x0), some (.int x1), some (.int x2)], [(.int y0), (.int y1), (.ref y2)]) h = xthn W m_Leaf_foldLowerOnUpper 48 [some (.ref x0), some (.int x1), some (.int x2)] [] (xptf (h.1 y2) h y2 6 4 0 (.int (y1 - y0)))) ∧
    (∀ (x0 : Nat) (x1 x2 : Int32) (h : xH), W m_Leaf_foldLowerOnUpper (48, [some (.ref x0), some (.int x1), some (.int x2)], []) h = some (.inl none, h)) :=
  ⟨fun _ _ _ _ => (xW_k hW 2 _ _ _).trans xq_fld,
   fun _ _ _ _ _ => (xW_k hW 4 _ _ _).trans rfl,
   fun _ _ _ _ => (xW_k hW 3 _ _ _).trans xq_fld,
   fun _ _ _ _ _ _ => (xW_k hW 3 _ _ _).trans xq_ptf,
   fun _ _ _ _ => (xW_k hW 1 _ _ _).trans rfl,
   fun _ _ _ _ => (xW_k hW 6 _ _ _).trans xq_fld,
   fun _ _ _ _ _ _ _ => (xW_k hW 2 _ _ _).trans xq_ptf,
   fun _ _ _ _ => (xW_k hW 3 _ _ _).trans xq_rc,
   fun _ _ _ _ => (xW_k hW 4 _ _ _).trans xq_fld,
   fun _ _ _ _ _ _ _ => (xW_k hW 2 _ _ _).trans xq_ptf,
   fun _ _ _ _ => (xW_k hW 1 _ _ _).trans rfl⟩
theorem X_Leaf_foldLowerOnUpper : xhs m_Leaf_foldLowerOnUpper = [] := rfl
theorem E_Leaf_leavesAbove (hW : ∀ M f h, W M f h = xbody V xF0 xG W M f h) :
    (∀ (x0 : Nat) (h : xH), W m_Leaf_leavesAbove (0, [some (.ref x0)], []) h = xpush W m_Leaf_leavesAbove 4 [some (.ref x0)] [] h (xfld 6 2 (h.1 x0))) ∧
    (∀ (x0 : Nat) (y0 : Int32) (h : xH), W m_Leaf_leavesAbove (4, [some (.ref x0)], [(.int y0)]) h = some (.inl (some (.int y0)), h)) :=
  ⟨fun _ _ => (xW_k hW 2 _ _ _).trans xq_fld,
   fun _ _ _ => (xW_k hW 1 _ _ _).trans rfl⟩
theorem X_Leaf_leavesAbove : xhs m_Leaf_leavesAbove = [] := rfl
theorem E_She_sheetCount (hW : ∀ M f h, W M f h = xbody V xF0 xG W M f h) :
    (∀ (x0 : Nat) (h : xH), W m_She_sheetCount (0, [some (.ref x0)], []) h = xpush W m_She_sheetCount 4 [some (.ref x0)] [] h (xfld 5 2 (h.1 x0))) ∧
    (∀ (x0 : Nat) (y0 : Int32) (h : xH), W m_She_sheetCount (4, [some (.ref x0)], [(.int y0)]) h = some (.inl (some (.int y0)), h)) :=
  ⟨fun _ _ => (xW_k hW 2 _ _ _).trans xq_fld,
   fun _ _ _ => (xW_k hW 1 _ _ _).trans rfl⟩
theorem X_She_sheetCount : xhs m_She_sheetCount = [] := rfl
theorem E_Law_slot (hW : ∀ M f h, W M f h = xbody V xF0 xG W M f h) :
    (∀ (x0 x5 : Nat) (x1 x2 x3 x4 : Int32) (h : xH), W m_Law_slot (0, [some (.ref x0), some (.int x1), some (.int x2), some (.int x3), some (.int x4), some (.ref x5), none], []) h = xret W m_Law_slot 9 12 [some (.ref x0), some (.int x1), some (.int x2), some (.int x3), some (.int x4), some (.ref x5), none] [(.int (Int32.ofInt 0)), (.ref x5)] (xrc 0 (h.1 x0) (W m_Room_slot (0, [some (.ref x0), some (.int x1), some (.int x2), some (.int x3), some (.int x4)], []) h))) ∧
    (∀ (x0 x5 y2 : Nat) (x1 x2 x3 x4 y0 y1 : Int32) (h : xH), W m_Law_slot (12, [some (.ref x0), some (.int x1), some (.int x2), some (.int x3), some (.int x4), some (.ref x5), none], [(.int y0), (.int y1), (.ref y2)]) h = xthn W m_Law_slot 14 [some (.ref x0), some (.int x1), some (.int x2), some (.int x3), some (.int x4), some (.ref x5), none] [] (xstL (h.1 y2) h y2 y1 (Int32.toInt64 y0))) ∧
    (∀ (x0 x5 : Nat) (x1 x2 x3 x4 : Int32) (h : xH), W m_Law_slot (14, [some (.ref x0), some (.int x1), some (.int x2), some (.int x3), some (.int x4), some (.ref x5), none], []) h = some (.inl (some (.int (Int32.ofInt 0))), h)) ∧
    (∀ (x0 x5 y0 : Nat) (x1 x2 x3 x4 : Int32) (h : xH), W m_Law_slot (17, [some (.ref x0), some (.int x1), some (.int x2), some (.int x3), some (.int x4), some (.ref x5), none], [(.ref y0)]) h = some (.inl (some (.int (Int32.ofInt 1))), h)) ∧
    (∀ (x0 x5 y0 : Nat) (x1 x2 x3 x4 : Int32) (h : xH), W m_Law_slot (21, [some (.ref x0), some (.int x1), some (.int x2), some (.int x3), some (.int x4), some (.ref x5), none], [(.ref y0)]) h = some (.inl (some (.int (Int32.ofInt 2))), h)) :=
  ⟨fun _ _ _ _ _ _ _ => (xW_k hW 8 _ _ _).trans xq_rc,
   fun _ _ _ _ _ _ _ _ _ _ => (xW_k hW 2 _ _ _).trans xq_stL,
   fun _ _ _ _ _ _ _ => (xW_k hW 3 _ _ _).trans rfl,
   fun _ _ _ _ _ _ _ _ => (xW_k hW 3 _ _ _).trans rfl,
   fun _ _ _ _ _ _ _ _ => (xW_k hW 3 _ _ _).trans rfl⟩
theorem E_Room_slot (hW : ∀ M f h, W M f h = xbody V xF0 xG W M f h) :
    (∀ (x0 : Nat) (x1 x2 x3 x4 : Int32) (h : xH), W m_Room_slot (0, [some (.ref x0), some (.int x1), some (.int x2), some (.int x3), some (.int x4)], []) h = xret W m_Room_slot 1 4 [some (.ref x0), some (.int x1), some (.int x2), some (.int x3), some (.int x4)] [] (xrc 0 (h.1 x0) (W m_Room_needLaid (0, [some (.ref x0)], []) h))) ∧
    (∀ (x0 : Nat) (x1 x2 x3 x4 : Int32) (h : xH), W m_Room_slot (4, [some (.ref x0), some (.int x1), some (.int x2), some (.int x3), some (.int x4)], []) h = xpush W m_Room_slot 9 [some (.ref x0), some (.int x1), some (.int x2), some (.int x3), some (.int x4)] [(.int x1)] h (xfld 0 5 (h.1 x0))) ∧
    (∀ (x0 y0 : Nat) (x1 x2 x3 x4 y1 : Int32) (h : xH), W m_Room_slot (9, [some (.ref x0), some (.int x1), some (.int x2), some (.int x3), some (.int x4)], [(.ref y0), (.int y1)]) h = xret W m_Room_slot 9 12 [some (.ref x0), some (.int x1), some (.int x2), some (.int x3), some (.int x4)] [(.int y1)] (xrc 5 (h.1 y0) (W m_She_sheetCount (0, [some (.ref y0)], []) h))) ∧
    (∀ (x0 : Nat) (x1 x2 x3 x4 y0 y1 : Int32) (h : xH), W m_Room_slot (12, [some (.ref x0), some (.int x1), some (.int x2), some (.int x3), some (.int x4)], [(.int y0), (.int y1)]) h = xret W m_Room_slot 12 15 [some (.ref x0), some (.int x1), some (.int x2), some (.int x3), some (.int x4)] [] (W m_Room_needIndex (0, [some (.int y1), some (.int y0)], []) h)) ∧
    (∀ (x0 : Nat) (x1 x2 x3 x4 : Int32) (h : xH), W m_Room_slot (15, [some (.ref x0), some (.int x1), some (.int x2), some (.int x3), some (.int x4)], []) h = xret W m_Room_slot 17 20 [some (.ref x0), some (.int x1), some (.int x2), some (.int x3), some (.int x4)] [] (W m_Room_needIndex (0, [some (.int x2), some (.int (Int32.ofInt 2))], []) h)) ∧
    (∀ (x0 : Nat) (x1 x2 x3 x4 : Int32) (h : xH), W m_Room_slot (20, [some (.ref x0), some (.int x1), some (.int x2), some (.int x3), some (.int x4)], []) h = xpush W m_Room_slot 25 [some (.ref x0), some (.int x1), some (.int x2), some (.int x3), some (.int x4)] [(.int x3)] h (xfld 0 5 (h.1 x0))) ∧
    (∀ (x0 y0 : Nat) (x1 x2 x3 x4 y1 : Int32) (h : xH), W m_Room_slot (25, [some (.ref x0), some (.int x1), some (.int x2), some (.int x3), some (.int x4)], [(.ref y0), (.int y1)]) h = xret W m_Room_slot 25 28 [some (.ref x0), some (.int x1), some (.int x2), some (.int x3), some (.int x4)] [(.int y1)] (xrc 5 (h.1 y0) (W m_She_leafCount (0, [some (.ref y0)], []) h))) ∧
    (∀ (x0 : Nat) (x1 x2 x3 x4 y0 y1 : Int32) (h : xH), W m_Room_slot (28, [some (.ref x0), some (.int x1), some (.int x2), some (.int x3), some (.int x4)], [(.int y0), (.int y1)]) h = xret W m_Room_slot 28 31 [some (.ref x0), some (.int x1), some (.int x2), some (.int x3), some (.int x4)] [] (W m_Room_needIndex (0, [some (.int y1), some (.int y0)], []) h)) ∧
    (∀ (x0 : Nat) (x1 x2 x3 x4 : Int32) (h : xH), W m_Room_slot (31, [some (.ref x0), some (.int x1), some (.int x2), some (.int x3), some (.int x4)], []) h = xret W m_Room_slot 34 37 [some (.ref x0), some (.int x1), some (.int x2), some (.int x3), some (.int x4)] [] (W m_Room_needIndex (0, [some (.int x4), some (.int (Int32.ofInt 3))], []) h)) ∧
    (∀ (x0 : Nat) (x1 x2 x3 x4 : Int32) (h : xH), W m_Room_slot (37, [some (.ref x0), some (.int x1), some (.int x2), some (.int x3), some (.int x4)], []) h = if x4 = (Int32.ofInt 0) then W m_Room_slot (42, [some (.ref x0), some (.int x1), some (.int x2), some (.int x3), some (.int x4)], []) h else W m_Room_slot (53, [some (.ref x0), some (.int x1), some (.int x2), some (.int x3), some (.int x4)], []) h) ∧
    (∀ (x0 : Nat) (x1 x2 x3 x4 : Int32) (h : xH), W m_Room_slot (42, [some (.ref x0), some (.int x1), some (.int x2), some (.int x3), some (.int x4)], []) h = xpush W m_Room_slot 46 [some (.ref x0), some (.int x1), some (.int x2), some (.int x3), some (.int x4)] [] h (xfld 0 5 (h.1 x0))) ∧
    (∀ (x0 y0 : Nat) (x1 x2 x3 x4 : Int32) (h : xH), W m_Room_slot (46, [some (.ref x0), some (.int x1), some (.int x2), some (.int x3), some (.int x4)], [(.ref y0)]) h = xret W m_Room_slot 49 52 [some (.ref x0), some (.int x1), some (.int x2), some (.int x3), some (.int x4)] [] (xrc 5 (h.1 y0) (W m_She_pageOn (0, [some (.ref y0), some (.int x1), some (.int x2), some (.int x3), none, none], []) h))) ∧
    (∀ (x0 : Nat) (x1 x2 x3 x4 y0 : Int32) (h : xH), W m_Room_slot (52, [some (.ref x0), some (.int x1), some (.int x2), some (.int x3), some (.int x4)], [(.int y0)]) h = some (.inl (some (.int y0)), h)) ∧
    (∀ (x0 : Nat) (x1 x2 x3 x4 : Int32) (h : xH), W m_Room_slot (53, [some (.ref x0), some (.int x1), some (.int x2), some (.int x3), some (.int x4)], []) h = if x4 = (Int32.ofInt 1) then W m_Room_slot (59, [some (.ref x0), some (.int x1), some (.int x2), some (.int x3), some (.int x4)], []) h else W m_Room_slot (70, [some (.ref x0), some (.int x1), some (.int x2), some (.int x3), some (.int x4)], []) h) ∧
    (∀ (x0 : Nat) (x1 x2 x3 x4 : Int32) (h : xH), W m_Room_slot (59, [some (.ref x0), some (.int x1), some (.int x2), some (.int x3), some (.int x4)], []) h = xpush W m_Room_slot 63 [some (.ref x0), some (.int x1), some (.int x2), some (.int x3), some (.int x4)] [] h (xfld 0 5 (h.1 x0))) ∧
    (∀ (x0 y0 : Nat) (x1 x2 x3 x4 : Int32) (h : xH), W m_Room_slot (63, [some (.ref x0), some (.int x1), some (.int x2), some (.int x3), some (.int x4)], [(.ref y0)]) h = xret W m_Room_slot 64 67 [some (.ref x0), some (.int x1), some (.int x2), some (.int x3), some (.int x4)] [] (xrc 5 (h.1 y0) (W m_She_turnOf (0, [some (.ref y0), some (.int x3)], []) h))) ∧
    (∀ (x0 : Nat) (x1 x2 x3 x4 y0 : Int32) (h : xH), W m_Room_slot (67, [some (.ref x0), some (.int x1), some (.int x2), some (.int x3), some (.int x4)], [(.int y0)]) h = some (.inl (some (.int y0)), h)) ∧
    (∀ (x0 : Nat) (x1 x2 x3 x4 : Int32) (h : xH), W m_Room_slot (70, [some (.ref x0), some (.int x1), some (.int x2), some (.int x3), some (.int x4)], []) h = xpush W m_Room_slot 74 [some (.ref x0), some (.int x1), some (.int x2), some (.int x3), some (.int x4)] [] h (xfld 0 5 (h.1 x0))) ∧
    (∀ (x0 y0 : Nat) (x1 x2 x3 x4 : Int32) (h : xH), W m_Room_slot (74, [some (.ref x0), some (.int x1), some (.int x2), some (.int x3), some (.int x4)], [(.ref y0)]) h = xret W m_Room_slot 75 78 [some (.ref x0), some (.int x1), some (.int x2), some (.int x3), some (.int x4)] [] (xrc 5 (h.1 y0) (W m_She_moveOf (0, [some (.ref y0), some (.int x3), none, none], []) h))) ∧
    (∀ (x0 : Nat) (x1 x2 x3 x4 y0 : Int32) (h : xH), W m_Room_slot (78, [some (.ref x0), some (.int x1), some (.int x2), some (.int x3), some (.int x4)], [(.int y0)]) h = some (.inl (some (.int y0)), h)) :=
  ⟨fun _ _ _ _ _ _ => (xW_k hW 2 _ _ _).trans xq_rc,
   fun _ _ _ _ _ _ => (xW_k hW 3 _ _ _).trans xq_fld,
   fun _ _ _ _ _ _ _ _ => (xW_k hW 1 _ _ _).trans xq_rc,
   fun _ _ _ _ _ _ _ _ => (xW_k hW 1 _ _ _).trans rfl,
   fun _ _ _ _ _ _ => (xW_k hW 3 _ _ _).trans rfl,
   fun _ _ _ _ _ _ => (xW_k hW 3 _ _ _).trans xq_fld,
   fun _ _ _ _ _ _ _ _ => (xW_k hW 1 _ _ _).trans xq_rc,
   fun _ _ _ _ _ _ _ _ => (xW_k hW 1 _ _ _).trans rfl,
   fun _ _ _ _ _ _ => (xW_k hW 3 _ _ _).trans rfl,
   fun _ _ _ _ _ _ => (xW_k hW 2 _ _ _).trans rfl,
   fun _ _ _ _ _ _ => (xW_k hW 2 _ _ _).trans xq_fld,
   fun _ _ _ _ _ _ _ => (xW_k hW 4 _ _ _).trans xq_rc,
   fun _ _ _ _ _ _ _ => (xW_k hW 1 _ _ _).trans rfl,
   fun _ _ _ _ _ _ => (xW_k hW 3 _ _ _).trans rfl,
   fun _ _ _ _ _ _ => (xW_k hW 2 _ _ _).trans xq_fld,
   fun _ _ _ _ _ _ _ => (xW_k hW 2 _ _ _).trans xq_rc,
   fun _ _ _ _ _ _ _ => (xW_k hW 2 _ _ _).trans rfl,
   fun _ _ _ _ _ _ => (xW_k hW 2 _ _ _).trans xq_fld,
   fun _ _ _ _ _ _ _ => (xW_k hW 2 _ _ _).trans xq_rc,
   fun _ _ _ _ _ _ _ => (xW_k hW 1 _ _ _).trans rfl⟩
theorem X_Room_slot : xhs m_Room_slot = [] := rfl
theorem E_Room_needLaid (hW : ∀ M f h, W M f h = xbody V xF0 xG W M f h) :
    (∀ (x0 : Nat) (h : xH), W m_Room_needLaid (0, [some (.ref x0)], []) h = xpush W m_Room_needLaid 4 [some (.ref x0)] [] h (xfld 0 5 (h.1 x0))) ∧
    (∀ (x0 y0 : Nat) (h : xH), W m_Room_needLaid (4, [some (.ref x0)], [(.ref y0)]) h = xret W m_Room_needLaid 4 7 [some (.ref x0)] [] (xrc 5 (h.1 y0) (W m_She_sheetCount (0, [some (.ref y0)], []) h))) ∧
    (∀ (x0 : Nat) (y0 : Int32) (h : xH), W m_Room_needLaid (7, [some (.ref x0)], [(.int y0)]) h = if y0 = (Int32.ofInt 0) then W m_Room_needLaid (10, [some (.ref x0)], []) h else W m_Room_needLaid (20, [some (.ref x0)], []) h) ∧
    (∀ (x0 : Nat) (h : xH), W m_Room_needLaid (10, [some (.ref x0)], []) h = some (.inr (10, h.2.1), xnew h (xO' 10 []) 6)) ∧
    (∀ (x0 : Nat) (h : xH), W m_Room_needLaid (20, [some (.ref x0)], []) h = some (.inl none, h)) :=
  ⟨fun _ _ => (xW_k hW 2 _ _ _).trans xq_fld,
   fun _ _ _ => (xW_k hW 1 _ _ _).trans xq_rc,
   fun _ _ _ => (xW_k hW 1 _ _ _).trans rfl,
   fun _ _ => (xW_k hW 1 _ _ _).trans rfl,
   fun _ _ => (xW_k hW 1 _ _ _).trans rfl⟩
theorem X_Room_needLaid : xhs m_Room_needLaid = [] := rfl
theorem E_She_leafCount (hW : ∀ M f h, W M f h = xbody V xF0 xG W M f h) :
    (∀ (x0 : Nat) (h : xH), W m_She_leafCount (0, [some (.ref x0)], []) h = xpush W m_She_leafCount 4 [some (.ref x0)] [] h (xfld 5 3 (h.1 x0))) ∧
    (∀ (x0 : Nat) (y0 : Int32) (h : xH), W m_She_leafCount (4, [some (.ref x0)], [(.int y0)]) h = some (.inl (some (.int y0)), h)) :=
  ⟨fun _ _ => (xW_k hW 2 _ _ _).trans xq_fld,
   fun _ _ _ => (xW_k hW 1 _ _ _).trans rfl⟩
theorem X_She_leafCount : xhs m_She_leafCount = [] := rfl
theorem E_She_pageOn (hW : ∀ M f h, W M f h = xbody V xF0 xG W M f h) :
    (∀ (x0 : Nat) (x1 x2 x3 : Int32) (h : xH), W m_She_pageOn (0, [some (.ref x0), some (.int x1), some (.int x2), some (.int x3), none, none], []) h = xpush W m_She_pageOn 4 [some (.ref x0), some (.int x1), some (.int x2), some (.int x3), none, none] [] h (xfld 5 0 (h.1 x0))) ∧
    (∀ (x0 y0 : Nat) (x1 x2 x3 : Int32) (h : xH), W m_She_pageOn (4, [some (.ref x0), some (.int x1), some (.int x2), some (.int x3), none, none], [(.ref y0)]) h = xpush W m_She_pageOn 6 [some (.ref x0), some (.int x1), some (.int x2), some (.int x3), none, none] [] h (xldR (h.1 y0) x3)) ∧
    (∀ (x0 y0 : Nat) (x1 x2 x3 : Int32) (h : xH), W m_She_pageOn (6, [some (.ref x0), some (.int x1), some (.int x2), some (.int x3), none, none], [(.ref y0)]) h = xret W m_She_pageOn 11 14 [some (.ref x0), some (.int x1), some (.int x2), some (.int x3), some (.ref y0), none] [(.int (Int32.ofInt 2))] (xrc 6 (h.1 y0) (W m_Leaf_leavesAbove (0, [some (.ref y0)], []) h))) ∧
    (∀ (x0 x4 : Nat) (x1 x2 x3 y0 y1 : Int32) (h : xH), W m_She_pageOn (14, [some (.ref x0), some (.int x1), some (.int x2), some (.int x3), some (.ref x4), none], [(.int y0), (.int y1)]) h = xret W m_She_pageOn 18 21 [some (.ref x0), some (.int x1), some (.int x2), some (.int x3), some (.ref x4), none] [(.int x2), (.int (y1 * y0))] (xrc 6 (h.1 x4) (W m_Leaf_sideUp (0, [some (.ref x4)], []) h))) ∧
    (∀ (x0 x4 : Nat) (x1 x2 x3 y0 y1 y2 : Int32) (h : xH), W m_She_pageOn (21, [some (.ref x0), some (.int x1), some (.int x2), some (.int x3), some (.ref x4), none], [(.int y0), (.int y1), (.int y2)]) h = if y1 = y0 then W m_She_pageOn (24, [some (.ref x0), some (.int x1), some (.int x2), some (.int x3), some (.ref x4), none], [(.int y2)]) h else W m_She_pageOn (28, [some (.ref x0), some (.int x1), some (.int x2), some (.int x3), some (.ref x4), none], [(.int y2)]) h) ∧
    (∀ (x0 x4 : Nat) (x1 x2 x3 y0 : Int32) (h : xH), W m_She_pageOn (24, [some (.ref x0), some (.int x1), some (.int x2), some (.int x3), some (.ref x4), none], [(.int y0)]) h = xpush W m_She_pageOn 39 [some (.ref x0), some (.int x1), some (.int x2), some (.int x3), some (.ref x4), some (.int (y0 + (Int32.ofInt 0)))] [(.int (x1 * (Int32.ofInt 2)))] h (xfld 5 3 (h.1 x0))) ∧
    (∀ (x0 x4 : Nat) (x1 x2 x3 y0 : Int32) (h : xH), W m_She_pageOn (28, [some (.ref x0), some (.int x1), some (.int x2), some (.int x3), some (.ref x4), none], [(.int y0)]) h = xpush W m_She_pageOn 39 [some (.ref x0), some (.int x1), some (.int x2), some (.int x3), some (.ref x4), some (.int (y0 + (Int32.ofInt 1)))] [(.int (x1 * (Int32.ofInt 2)))] h (xfld 5 3 (h.1 x0))) ∧
    (∀ (x0 x4 : Nat) (x1 x2 x3 x5 y0 y1 : Int32) (h : xH), W m_She_pageOn (39, [some (.ref x0), some (.int x1), some (.int x2), some (.int x3), some (.ref x4), some (.int x5)], [(.int y0), (.int y1)]) h = some (.inl (some (.int ((y1 * y0) + x5))), h)) :=
  ⟨fun _ _ _ _ _ => (xW_k hW 2 _ _ _).trans xq_fld,
   fun _ _ _ _ _ _ => (xW_k hW 2 _ _ _).trans xq_ldR,
   fun _ _ _ _ _ _ => (xW_k hW 4 _ _ _).trans xq_rc,
   fun _ _ _ _ _ _ _ _ => (xW_k hW 4 _ _ _).trans xq_rc,
   fun _ _ _ _ _ _ _ _ _ => (xW_k hW 1 _ _ _).trans rfl,
   fun _ _ _ _ _ _ _ => (xW_k hW 9 _ _ _).trans xq_fld,
   fun _ _ _ _ _ _ _ => (xW_k hW 8 _ _ _).trans xq_fld,
   fun _ _ _ _ _ _ _ _ _ => (xW_k hW 4 _ _ _).trans rfl⟩
theorem X_She_pageOn : xhs m_She_pageOn = [] := rfl
theorem E_Leaf_sideUp (hW : ∀ M f h, W M f h = xbody V xF0 xG W M f h) :
    (∀ (x0 : Nat) (h : xH), W m_Leaf_sideUp (0, [some (.ref x0)], []) h = xpush W m_Leaf_sideUp 4 [some (.ref x0)] [] h (xfld 6 3 (h.1 x0))) ∧
    (∀ (x0 : Nat) (y0 : Int32) (h : xH), W m_Leaf_sideUp (4, [some (.ref x0)], [(.int y0)]) h = some (.inl (some (.int y0)), h)) :=
  ⟨fun _ _ => (xW_k hW 2 _ _ _).trans xq_fld,
   fun _ _ _ => (xW_k hW 1 _ _ _).trans rfl⟩
theorem X_Leaf_sideUp : xhs m_Leaf_sideUp = [] := rfl
theorem E_She_turnOf (hW : ∀ M f h, W M f h = xbody V xF0 xG W M f h) :
    (∀ (x0 : Nat) (x1 : Int32) (h : xH), W m_She_turnOf (0, [some (.ref x0), some (.int x1)], []) h = xpush W m_She_turnOf 4 [some (.ref x0), some (.int x1)] [] h (xfld 5 0 (h.1 x0))) ∧
    (∀ (x0 y0 : Nat) (x1 : Int32) (h : xH), W m_She_turnOf (4, [some (.ref x0), some (.int x1)], [(.ref y0)]) h = xpush W m_She_turnOf 6 [some (.ref x0), some (.int x1)] [] h (xldR (h.1 y0) x1)) ∧
    (∀ (x0 y0 : Nat) (x1 : Int32) (h : xH), W m_She_turnOf (6, [some (.ref x0), some (.int x1)], [(.ref y0)]) h = xret W m_She_turnOf 6 9 [some (.ref x0), some (.int x1)] [] (xrc 6 (h.1 y0) (W m_Leaf_turnAtEnd (0, [some (.ref y0)], []) h))) ∧
    (∀ (x0 : Nat) (x1 y0 : Int32) (h : xH), W m_She_turnOf (9, [some (.ref x0), some (.int x1)], [(.int y0)]) h = some (.inl (some (.int y0)), h)) :=
  ⟨fun _ _ _ => (xW_k hW 2 _ _ _).trans xq_fld,
   fun _ _ _ _ => (xW_k hW 2 _ _ _).trans xq_ldR,
   fun _ _ _ _ => (xW_k hW 1 _ _ _).trans xq_rc,
   fun _ _ _ _ => (xW_k hW 1 _ _ _).trans rfl⟩
theorem X_She_turnOf : xhs m_She_turnOf = [] := rfl
theorem E_Leaf_turnAtEnd (hW : ∀ M f h, W M f h = xbody V xF0 xG W M f h) :
    (∀ (x0 : Nat) (h : xH), W m_Leaf_turnAtEnd (0, [some (.ref x0)], []) h = xpush W m_Leaf_turnAtEnd 4 [some (.ref x0)] [] h (xfld 6 4 (h.1 x0))) ∧
    (∀ (x0 : Nat) (y0 : Int32) (h : xH), W m_Leaf_turnAtEnd (4, [some (.ref x0)], [(.int y0)]) h = some (.inl (some (.int y0)), h)) :=
  ⟨fun _ _ => (xW_k hW 2 _ _ _).trans xq_fld,
   fun _ _ _ => (xW_k hW 1 _ _ _).trans rfl⟩
theorem X_Leaf_turnAtEnd : xhs m_Leaf_turnAtEnd = [] := rfl
theorem E_She_moveOf (hW : ∀ M f h, W M f h = xbody V xF0 xG W M f h) :
    (∀ (x0 : Nat) (x1 : Int32) (h : xH), W m_She_moveOf (0, [some (.ref x0), some (.int x1), none, none], []) h = xpush W m_She_moveOf 4 [some (.ref x0), some (.int x1), none, none] [] h (xfld 5 3 (h.1 x0))) ∧
    (∀ (x0 : Nat) (x1 y0 : Int32) (h : xH), W m_She_moveOf (4, [some (.ref x0), some (.int x1), none, none], [(.int y0)]) h = if (Int32.ofInt 1) ≤ ((y0 / (Int32.ofInt 2)) - (Int32.ofInt 1)) then W m_She_moveOf (16, [some (.ref x0), some (.int x1), some (.int ((y0 / (Int32.ofInt 2)) - (Int32.ofInt 1))), none], []) h else W m_She_moveOf (14, [some (.ref x0), some (.int x1), some (.int ((y0 / (Int32.ofInt 2)) - (Int32.ofInt 1))), none], []) h) ∧
    (∀ (x0 : Nat) (x1 x2 : Int32) (h : xH), W m_She_moveOf (14, [some (.ref x0), some (.int x1), some (.int x2), none], []) h = some (.inl (some (.int (Int32.ofInt 0))), h)) ∧
    (∀ (x0 : Nat) (x1 x2 : Int32) (h : xH), W m_She_moveOf (16, [some (.ref x0), some (.int x1), some (.int x2), none], []) h = xpush W m_She_moveOf 20 [some (.ref x0), some (.int x1), some (.int x2), none] [] h (xfld 5 0 (h.1 x0))) ∧
    (∀ (x0 y0 : Nat) (x1 x2 : Int32) (h : xH), W m_She_moveOf (20, [some (.ref x0), some (.int x1), some (.int x2), none], [(.ref y0)]) h = xpush W m_She_moveOf 22 [some (.ref x0), some (.int x1), some (.int x2), none] [] h (xldR (h.1 y0) x1)) ∧
    (∀ (x0 y0 : Nat) (x1 x2 : Int32) (h : xH), W m_She_moveOf (22, [some (.ref x0), some (.int x1), some (.int x2), none], [(.ref y0)]) h = xret W m_She_moveOf 22 25 [some (.ref x0), some (.int x1), some (.int x2), none] [] (xrc 6 (h.1 y0) (W m_Leaf_leavesAbove (0, [some (.ref y0)], []) h))) ∧
    (∀ (x0 : Nat) (x1 x2 y0 : Int32) (h : xH), W m_She_moveOf (25, [some (.ref x0), some (.int x1), some (.int x2), none], [(.int y0)]) h = xpush W m_She_moveOf 30 [some (.ref x0), some (.int x1), some (.int x2), some (.int y0)] [] h (xfld 5 4 (h.1 x0))) ∧
    (∀ (x0 : Nat) (x1 x2 x3 y0 : Int32) (h : xH), W m_She_moveOf (30, [some (.ref x0), some (.int x1), some (.int x2), some (.int x3)], [(.int y0)]) h = xpush W m_She_moveOf 35 [some (.ref x0), some (.int x1), some (.int x2), some (.int x3)] [(.int x3), (.int y0)] h (xfld 5 3 (h.1 x0))) ∧
    (∀ (x0 : Nat) (x1 x2 x3 y0 y1 y2 : Int32) (h : xH), W m_She_moveOf (35, [some (.ref x0), some (.int x1), some (.int x2), some (.int x3)], [(.int y0), (.int y1), (.int y2)]) h = xret W m_She_moveOf 39 42 [some (.ref x0), some (.int x1), some (.int x2), some (.int x3)] [(.int y2)] (W m_Math_min (0, [some (.int y1), some (.int ((y0 - (Int32.ofInt 1)) - x3))], []) h)) ∧
    (∀ (x0 : Nat) (x1 x2 x3 y0 y1 : Int32) (h : xH), W m_She_moveOf (42, [some (.ref x0), some (.int x1), some (.int x2), some (.int x3)], [(.int y0), (.int y1)]) h = xpush W m_She_moveOf 45 [some (.ref x0), some (.int x1), some (.int x2), some (.int x3)] [] h (xdv x2 (.int ((y1 * y0) / x2)))) ∧
    (∀ (x0 : Nat) (x1 x2 x3 y0 : Int32) (h : xH), W m_She_moveOf (45, [some (.ref x0), some (.int x1), some (.int x2), some (.int x3)], [(.int y0)]) h = some (.inl (some (.int y0)), h)) :=
  ⟨fun _ _ _ => (xW_k hW 2 _ _ _).trans xq_fld,
   fun _ _ _ _ => (xW_k hW 8 _ _ _).trans rfl,
   fun _ _ _ _ => (xW_k hW 2 _ _ _).trans rfl,
   fun _ _ _ _ => (xW_k hW 2 _ _ _).trans xq_fld,
   fun _ _ _ _ _ => (xW_k hW 2 _ _ _).trans xq_ldR,
   fun _ _ _ _ _ => (xW_k hW 1 _ _ _).trans xq_rc,
   fun _ _ _ _ _ => (xW_k hW 3 _ _ _).trans xq_fld,
   fun _ _ _ _ _ _ => (xW_k hW 3 _ _ _).trans xq_fld,
   fun _ _ _ _ _ _ _ _ => (xW_k hW 5 _ _ _).trans rfl,
   fun _ _ _ _ _ _ _ => (xW_k hW 3 _ _ _).trans xq_dv,
   fun _ _ _ _ _ _ => (xW_k hW 1 _ _ _).trans rfl⟩
theorem X_She_moveOf : xhs m_She_moveOf = [] := rfl
theorem E_Law_read (hW : ∀ M f h, W M f h = xbody V xF0 xG W M f h) :
    (∀ (x0 x3 : Nat) (x1 x2 : Int32) (h : xH), W m_Law_read (0, [some (.ref x0), some (.int x1), some (.int x2), some (.ref x3), none], []) h = xret W m_Law_read 5 8 [some (.ref x0), some (.int x1), some (.int x2), some (.ref x3), none] [(.int (Int32.ofInt 0)), (.ref x3)] (xrc 0 (h.1 x0) (W m_Room_read (0, [some (.ref x0), some (.int x1), some (.int x2)], []) h))) ∧
    (∀ (x0 x3 y2 : Nat) (x1 x2 y0 y1 : Int32) (h : xH), W m_Law_read (8, [some (.ref x0), some (.int x1), some (.int x2), some (.ref x3), none], [(.int y0), (.int y1), (.ref y2)]) h = xthn W m_Law_read 10 [some (.ref x0), some (.int x1), some (.int x2), some (.ref x3), none] [] (xstL (h.1 y2) h y2 y1 (Int32.toInt64 y0))) ∧
    (∀ (x0 x3 : Nat) (x1 x2 : Int32) (h : xH), W m_Law_read (10, [some (.ref x0), some (.int x1), some (.int x2), some (.ref x3), none], []) h = some (.inl (some (.int (Int32.ofInt 0))), h)) ∧
    (∀ (x0 x3 y0 : Nat) (x1 x2 : Int32) (h : xH), W m_Law_read (13, [some (.ref x0), some (.int x1), some (.int x2), some (.ref x3), none], [(.ref y0)]) h = some (.inl (some (.int (Int32.ofInt 1))), h)) ∧
    (∀ (x0 x3 y0 : Nat) (x1 x2 : Int32) (h : xH), W m_Law_read (17, [some (.ref x0), some (.int x1), some (.int x2), some (.ref x3), none], [(.ref y0)]) h = some (.inl (some (.int (Int32.ofInt 2))), h)) :=
  ⟨fun _ _ _ _ _ => (xW_k hW 6 _ _ _).trans xq_rc,
   fun _ _ _ _ _ _ _ _ => (xW_k hW 2 _ _ _).trans xq_stL,
   fun _ _ _ _ _ => (xW_k hW 3 _ _ _).trans rfl,
   fun _ _ _ _ _ _ => (xW_k hW 3 _ _ _).trans rfl,
   fun _ _ _ _ _ _ => (xW_k hW 3 _ _ _).trans rfl⟩
theorem E_Room_read (hW : ∀ M f h, W M f h = xbody V xF0 xG W M f h) :
    (∀ (x0 : Nat) (x1 x2 : Int32) (h : xH), W m_Room_read (0, [some (.ref x0), some (.int x1), some (.int x2)], []) h = xret W m_Room_read 1 4 [some (.ref x0), some (.int x1), some (.int x2)] [] (xrc 0 (h.1 x0) (W m_Room_needLaid (0, [some (.ref x0)], []) h))) ∧
    (∀ (x0 : Nat) (x1 x2 : Int32) (h : xH), W m_Room_read (4, [some (.ref x0), some (.int x1), some (.int x2)], []) h = xpush W m_Room_read 10 [some (.ref x0), some (.int x1), some (.int x2)] [(.int (Int32.ofInt 2)), (.int x1)] h (xfld 0 5 (h.1 x0))) ∧
    (∀ (x0 y0 : Nat) (x1 x2 y1 y2 : Int32) (h : xH), W m_Room_read (10, [some (.ref x0), some (.int x1), some (.int x2)], [(.ref y0), (.int y1), (.int y2)]) h = xret W m_Room_read 10 13 [some (.ref x0), some (.int x1), some (.int x2)] [(.int y1), (.int y2)] (xrc 5 (h.1 y0) (W m_She_leafCount (0, [some (.ref y0)], []) h))) ∧
    (∀ (x0 : Nat) (x1 x2 y0 y1 y2 : Int32) (h : xH), W m_Room_read (13, [some (.ref x0), some (.int x1), some (.int x2)], [(.int y0), (.int y1), (.int y2)]) h = xret W m_Room_read 14 17 [some (.ref x0), some (.int x1), some (.int x2)] [] (W m_Room_needIndex (0, [some (.int y2), some (.int (y1 * y0))], []) h)) ∧
    (∀ (x0 : Nat) (x1 x2 : Int32) (h : xH), W m_Room_read (17, [some (.ref x0), some (.int x1), some (.int x2)], []) h = xret W m_Room_read 19 22 [some (.ref x0), some (.int x1), some (.int x2)] [] (W m_Room_needIndex (0, [some (.int x2), some (.int (Int32.ofInt 2))], []) h)) ∧
    (∀ (x0 : Nat) (x1 x2 : Int32) (h : xH), W m_Room_read (22, [some (.ref x0), some (.int x1), some (.int x2)], []) h = if x2 = (Int32.ofInt 0) then W m_Room_read (26, [some (.ref x0), some (.int x1), some (.int x2)], []) h else W m_Room_read (37, [some (.ref x0), some (.int x1), some (.int x2)], []) h) ∧
    (∀ (x0 : Nat) (x1 x2 : Int32) (h : xH), W m_Room_read (26, [some (.ref x0), some (.int x1), some (.int x2)], []) h = xpush W m_Room_read 30 [some (.ref x0), some (.int x1), some (.int x2)] [] h (xfld 0 5 (h.1 x0))) ∧
    (∀ (x0 y0 : Nat) (x1 x2 : Int32) (h : xH), W m_Room_read (30, [some (.ref x0), some (.int x1), some (.int x2)], [(.ref y0)]) h = xret W m_Room_read 31 34 [some (.ref x0), some (.int x1), some (.int x2)] [] (xrc 5 (h.1 y0) (W m_She_slotRead (0, [some (.ref y0), some (.int x1)], []) h))) ∧
    (∀ (x0 : Nat) (x1 x2 y0 : Int32) (h : xH), W m_Room_read (34, [some (.ref x0), some (.int x1), some (.int x2)], [(.int y0)]) h = some (.inl (some (.int y0)), h)) ∧
    (∀ (x0 : Nat) (x1 x2 : Int32) (h : xH), W m_Room_read (37, [some (.ref x0), some (.int x1), some (.int x2)], []) h = xpush W m_Room_read 41 [some (.ref x0), some (.int x1), some (.int x2)] [] h (xfld 0 5 (h.1 x0))) ∧
    (∀ (x0 y0 : Nat) (x1 x2 : Int32) (h : xH), W m_Room_read (41, [some (.ref x0), some (.int x1), some (.int x2)], [(.ref y0)]) h = xret W m_Room_read 42 45 [some (.ref x0), some (.int x1), some (.int x2)] [] (xrc 5 (h.1 y0) (W m_She_sideRead (0, [some (.ref y0), some (.int x1), none], []) h))) ∧
    (∀ (x0 : Nat) (x1 x2 y0 : Int32) (h : xH), W m_Room_read (45, [some (.ref x0), some (.int x1), some (.int x2)], [(.int y0)]) h = some (.inl (some (.int y0)), h)) :=
  ⟨fun _ _ _ _ => (xW_k hW 2 _ _ _).trans xq_rc,
   fun _ _ _ _ => (xW_k hW 4 _ _ _).trans xq_fld,
   fun _ _ _ _ _ _ _ => (xW_k hW 1 _ _ _).trans xq_rc,
   fun _ _ _ _ _ _ _ => (xW_k hW 2 _ _ _).trans rfl,
   fun _ _ _ _ => (xW_k hW 3 _ _ _).trans rfl,
   fun _ _ _ _ => (xW_k hW 2 _ _ _).trans rfl,
   fun _ _ _ _ => (xW_k hW 2 _ _ _).trans xq_fld,
   fun _ _ _ _ _ => (xW_k hW 2 _ _ _).trans xq_rc,
   fun _ _ _ _ _ => (xW_k hW 2 _ _ _).trans rfl,
   fun _ _ _ _ => (xW_k hW 2 _ _ _).trans xq_fld,
   fun _ _ _ _ _ => (xW_k hW 2 _ _ _).trans xq_rc,
   fun _ _ _ _ _ => (xW_k hW 1 _ _ _).trans rfl⟩
theorem X_Room_read : xhs m_Room_read = [] := rfl
theorem E_She_slotRead (hW : ∀ M f h, W M f h = xbody V xF0 xG W M f h) :
    (∀ (x0 : Nat) (x1 : Int32) (h : xH), W m_She_slotRead (0, [some (.ref x0), some (.int x1)], []) h = xpush W m_She_slotRead 4 [some (.ref x0), some (.int x1)] [] h (xfld 5 1 (h.1 x0))) ∧
    (∀ (x0 y0 : Nat) (x1 : Int32) (h : xH), W m_She_slotRead (4, [some (.ref x0), some (.int x1)], [(.ref y0)]) h = xpush W m_She_slotRead 8 [some (.ref x0), some (.int x1)] [] h (xldI (h.1 y0) (x1 / (Int32.ofInt 2)))) ∧
    (∀ (x0 : Nat) (x1 y0 : Int32) (h : xH), W m_She_slotRead (8, [some (.ref x0), some (.int x1)], [(.int y0)]) h = some (.inl (some (.int y0)), h)) :=
  ⟨fun _ _ _ => (xW_k hW 2 _ _ _).trans xq_fld,
   fun _ _ _ _ => (xW_k hW 4 _ _ _).trans xq_ldI,
   fun _ _ _ _ => (xW_k hW 1 _ _ _).trans rfl⟩
theorem X_She_slotRead : xhs m_She_slotRead = [] := rfl
theorem E_She_sideRead (hW : ∀ M f h, W M f h = xbody V xF0 xG W M f h) :
    (∀ (x0 : Nat) (x1 : Int32) (h : xH), W m_She_sideRead (0, [some (.ref x0), some (.int x1), none], []) h = xpush W m_She_sideRead 4 [some (.ref x0), some (.int x1), none] [] h (xfld 5 0 (h.1 x0))) ∧
    (∀ (x0 y0 : Nat) (x1 : Int32) (h : xH), W m_She_sideRead (4, [some (.ref x0), some (.int x1), none], [(.ref y0)]) h = xret W m_She_sideRead 6 9 [some (.ref x0), some (.int x1), none] [(.ref y0)] (xrc 5 (h.1 x0) (W m_She_slotRead (0, [some (.ref x0), some (.int x1)], []) h))) ∧
    (∀ (x0 y1 : Nat) (x1 y0 : Int32) (h : xH), W m_She_sideRead (9, [some (.ref x0), some (.int x1), none], [(.int y0), (.ref y1)]) h = xpush W m_She_sideRead 10 [some (.ref x0), some (.int x1), none] [] h (xldR (h.1 y1) y0)) ∧
    (∀ (x0 y0 : Nat) (x1 : Int32) (h : xH), W m_She_sideRead (10, [some (.ref x0), some (.int x1), none], [(.ref y0)]) h = xret W m_She_sideRead 10 13 [some (.ref x0), some (.int x1), none] [] (xrc 6 (h.1 y0) (W m_Leaf_sideUp (0, [some (.ref y0)], []) h))) ∧
    (∀ (x0 : Nat) (x1 y0 : Int32) (h : xH), W m_She_sideRead (13, [some (.ref x0), some (.int x1), none], [(.int y0)]) h = if (x1 - x1 / (Int32.ofInt 2) * (Int32.ofInt 2)) = (Int32.ofInt 0) then W m_She_sideRead (20, [some (.ref x0), some (.int x1), some (.int y0)], []) h else W m_She_sideRead (24, [some (.ref x0), some (.int x1), some (.int y0)], []) h) ∧
    (∀ (x0 : Nat) (x1 x2 : Int32) (h : xH), W m_She_sideRead (20, [some (.ref x0), some (.int x1), some (.int x2)], []) h = some (.inl (some (.int x2)), h)) ∧
    (∀ (x0 : Nat) (x1 x2 : Int32) (h : xH), W m_She_sideRead (24, [some (.ref x0), some (.int x1), some (.int x2)], []) h = some (.inl (some (.int ((Int32.ofInt 1) - x2))), h)) :=
  ⟨fun _ _ _ => (xW_k hW 2 _ _ _).trans xq_fld,
   fun _ _ _ _ => (xW_k hW 3 _ _ _).trans xq_rc,
   fun _ _ _ _ _ => (xW_k hW 1 _ _ _).trans xq_ldR,
   fun _ _ _ _ => (xW_k hW 1 _ _ _).trans xq_rc,
   fun _ _ _ _ => (xW_k hW 5 _ _ _).trans rfl,
   fun _ _ _ _ => (xW_k hW 3 _ _ _).trans rfl,
   fun _ _ _ _ => (xW_k hW 4 _ _ _).trans rfl⟩
theorem X_She_sideRead : xhs m_She_sideRead = [] := rfl
theorem E_Mod_init (hW : ∀ M f h, W M f h = xbody V xF0 xG W M f h) :
    (∀ (x0 : Nat) (h : xH), W m_Mod_init (0, [some (.ref x0)], []) h = xmk W m_Mod_init 10 [some (.ref x0)] [(.ref x0)] h 0 (Int32.ofInt 512)) ∧
    (∀ (x0 y0 y1 : Nat) (h : xH), W m_Mod_init (10, [some (.ref x0)], [(.ref y0), (.ref y1)]) h = xthn W m_Mod_init 13 [some (.ref x0)] [] (xptf (h.1 y1) h y1 7 1 2 (.ref y0))) ∧
    (∀ (x0 : Nat) (h : xH), W m_Mod_init (13, [some (.ref x0)], []) h = xmk W m_Mod_init 19 [some (.ref x0)] [(.ref x0)] h 0 (Int32.ofInt 12288)) ∧
    (∀ (x0 y0 y1 : Nat) (h : xH), W m_Mod_init (19, [some (.ref x0)], [(.ref y0), (.ref y1)]) h = xthn W m_Mod_init 22 [some (.ref x0)] [] (xptf (h.1 y1) h y1 7 2 2 (.ref y0))) ∧
    (∀ (x0 : Nat) (h : xH), W m_Mod_init (22, [some (.ref x0)], []) h = xthn W m_Mod_init 29 [some (.ref x0)] [] (xptf (h.1 x0) h x0 7 4 0 (.int (Int32.ofInt 1020)))) ∧
    (∀ (x0 : Nat) (h : xH), W m_Mod_init (29, [some (.ref x0)], []) h = xmk W m_Mod_init 33 [some (.ref x0)] [(.ref x0)] h 2 (Int32.ofInt 4)) ∧
    (∀ (x0 y0 y1 : Nat) (h : xH), W m_Mod_init (33, [some (.ref x0)], [(.ref y0), (.ref y1)]) h = xthn W m_Mod_init 36 [some (.ref x0)] [] (xptf (h.1 y1) h y1 7 5 2 (.ref y0))) ∧
    (∀ (x0 : Nat) (h : xH), W m_Mod_init (36, [some (.ref x0)], []) h = xmk W m_Mod_init 40 [some (.ref x0)] [(.ref x0)] h 2 (Int32.ofInt 4)) ∧
    (∀ (x0 y0 y1 : Nat) (h : xH), W m_Mod_init (40, [some (.ref x0)], [(.ref y0), (.ref y1)]) h = xthn W m_Mod_init 43 [some (.ref x0)] [] (xptf (h.1 y1) h y1 7 6 2 (.ref y0))) ∧
    (∀ (x0 : Nat) (h : xH), W m_Mod_init (43, [some (.ref x0)], []) h = xmk W m_Mod_init 49 [some (.ref x0)] [(.ref x0)] h 0 (Int32.ofInt 12288)) ∧
    (∀ (x0 y0 y1 : Nat) (h : xH), W m_Mod_init (49, [some (.ref x0)], [(.ref y0), (.ref y1)]) h = xthn W m_Mod_init 52 [some (.ref x0)] [] (xptf (h.1 y1) h y1 7 7 2 (.ref y0))) ∧
    (∀ (x0 : Nat) (h : xH), W m_Mod_init (52, [some (.ref x0)], []) h = xmk W m_Mod_init 58 [some (.ref x0)] [(.ref x0)] h 0 (Int32.ofInt 2048)) ∧
    (∀ (x0 y0 y1 : Nat) (h : xH), W m_Mod_init (58, [some (.ref x0)], [(.ref y0), (.ref y1)]) h = xthn W m_Mod_init 61 [some (.ref x0)] [] (xptf (h.1 y1) h y1 7 8 2 (.ref y0))) ∧
    (∀ (x0 : Nat) (h : xH), W m_Mod_init (61, [some (.ref x0)], []) h = xmk W m_Mod_init 67 [some (.ref x0)] [(.ref x0)] h 0 (Int32.ofInt 12288)) ∧
    (∀ (x0 y0 y1 : Nat) (h : xH), W m_Mod_init (67, [some (.ref x0)], [(.ref y0), (.ref y1)]) h = xthn W m_Mod_init 70 [some (.ref x0)] [] (xptf (h.1 y1) h y1 7 9 2 (.ref y0))) ∧
    (∀ (x0 : Nat) (h : xH), W m_Mod_init (70, [some (.ref x0)], []) h = xmk W m_Mod_init 75 [some (.ref x0)] [(.ref x0)] h 2 (Int32.ofInt 64)) ∧
    (∀ (x0 y0 y1 : Nat) (h : xH), W m_Mod_init (75, [some (.ref x0)], [(.ref y0), (.ref y1)]) h = xthn W m_Mod_init 78 [some (.ref x0)] [] (xptf (h.1 y1) h y1 7 10 2 (.ref y0))) ∧
    (∀ (x0 : Nat) (h : xH), W m_Mod_init (78, [some (.ref x0)], []) h = xmk W m_Mod_init 82 [some (.ref x0)] [(.ref x0)] h 0 (Int32.ofInt 4)) ∧
    (∀ (x0 y0 y1 : Nat) (h : xH), W m_Mod_init (82, [some (.ref x0)], [(.ref y0), (.ref y1)]) h = xthn W m_Mod_init 86 [some (.ref x0)] [(.ref y0), (.ref y1)] (xstI (h.1 y0) h y0 (Int32.ofInt 0) (Int32.ofInt 0))) ∧
    (∀ (x0 y0 y1 : Nat) (h : xH), W m_Mod_init (86, [some (.ref x0)], [(.ref y0), (.ref y1)]) h = xthn W m_Mod_init 90 [some (.ref x0)] [(.ref y0), (.ref y1)] (xstI (h.1 y0) h y0 (Int32.ofInt 1) (Int32.ofInt 0))) ∧
    (∀ (x0 y0 y1 : Nat) (h : xH), W m_Mod_init (90, [some (.ref x0)], [(.ref y0), (.ref y1)]) h = xthn W m_Mod_init 94 [some (.ref x0)] [(.ref y0), (.ref y1)] (xstI (h.1 y0) h y0 (Int32.ofInt 2) (Int32.ofInt 0))) ∧
    (∀ (x0 y0 y1 : Nat) (h : xH), W m_Mod_init (94, [some (.ref x0)], [(.ref y0), (.ref y1)]) h = xthn W m_Mod_init 98 [some (.ref x0)] [(.ref y0), (.ref y1)] (xstI (h.1 y0) h y0 (Int32.ofInt 3) (Int32.ofInt 0))) ∧
    (∀ (x0 y0 y1 : Nat) (h : xH), W m_Mod_init (98, [some (.ref x0)], [(.ref y0), (.ref y1)]) h = xthn W m_Mod_init 101 [some (.ref x0)] [] (xptf (h.1 y1) h y1 7 11 2 (.ref y0))) ∧
    (∀ (x0 : Nat) (h : xH), W m_Mod_init (101, [some (.ref x0)], []) h = xmk W m_Mod_init 106 [some (.ref x0)] [(.ref x0)] h 0 (Int32.ofInt 8)) ∧
    (∀ (x0 y0 y1 : Nat) (h : xH), W m_Mod_init (106, [some (.ref x0)], [(.ref y0), (.ref y1)]) h = xthn W m_Mod_init 110 [some (.ref x0)] [(.ref y0), (.ref y1)] (xstI (h.1 y0) h y0 (Int32.ofInt 0) (Int32.ofInt 4))) ∧
    (∀ (x0 y0 y1 : Nat) (h : xH), W m_Mod_init (110, [some (.ref x0)], [(.ref y0), (.ref y1)]) h = xthn W m_Mod_init 114 [some (.ref x0)] [(.ref y0), (.ref y1)] (xstI (h.1 y0) h y0 (Int32.ofInt 1) (Int32.ofInt 4))) ∧
    (∀ (x0 y0 y1 : Nat) (h : xH), W m_Mod_init (114, [some (.ref x0)], [(.ref y0), (.ref y1)]) h = xthn W m_Mod_init 118 [some (.ref x0)] [(.ref y0), (.ref y1)] (xstI (h.1 y0) h y0 (Int32.ofInt 2) (Int32.ofInt 4))) ∧
    (∀ (x0 y0 y1 : Nat) (h : xH), W m_Mod_init (118, [some (.ref x0)], [(.ref y0), (.ref y1)]) h = xthn W m_Mod_init 122 [some (.ref x0)] [(.ref y0), (.ref y1)] (xstI (h.1 y0) h y0 (Int32.ofInt 3) (Int32.ofInt 4))) ∧
    (∀ (x0 y0 y1 : Nat) (h : xH), W m_Mod_init (122, [some (.ref x0)], [(.ref y0), (.ref y1)]) h = xthn W m_Mod_init 126 [some (.ref x0)] [(.ref y0), (.ref y1)] (xstI (h.1 y0) h y0 (Int32.ofInt 4) (Int32.ofInt 4))) ∧
    (∀ (x0 y0 y1 : Nat) (h : xH), W m_Mod_init (126, [some (.ref x0)], [(.ref y0), (.ref y1)]) h = xthn W m_Mod_init 130 [some (.ref x0)] [(.ref y0), (.ref y1)] (xstI (h.1 y0) h y0 (Int32.ofInt 5) (Int32.ofInt 4))) ∧
    (∀ (x0 y0 y1 : Nat) (h : xH), W m_Mod_init (130, [some (.ref x0)], [(.ref y0), (.ref y1)]) h = xthn W m_Mod_init 135 [some (.ref x0)] [(.ref y0), (.ref y1)] (xstI (h.1 y0) h y0 (Int32.ofInt 6) (Int32.ofInt 4))) ∧
    (∀ (x0 y0 y1 : Nat) (h : xH), W m_Mod_init (135, [some (.ref x0)], [(.ref y0), (.ref y1)]) h = xthn W m_Mod_init 140 [some (.ref x0)] [(.ref y0), (.ref y1)] (xstI (h.1 y0) h y0 (Int32.ofInt 7) (Int32.ofInt 4))) ∧
    (∀ (x0 y0 y1 : Nat) (h : xH), W m_Mod_init (140, [some (.ref x0)], [(.ref y0), (.ref y1)]) h = xthn W m_Mod_init 143 [some (.ref x0)] [] (xptf (h.1 y1) h y1 7 12 2 (.ref y0))) ∧
    (∀ (x0 : Nat) (h : xH), W m_Mod_init (143, [some (.ref x0)], []) h = xmk W m_Mod_init 148 [some (.ref x0)] [(.ref x0)] h 0 (Int32.ofInt 8)) ∧
    (∀ (x0 y0 y1 : Nat) (h : xH), W m_Mod_init (148, [some (.ref x0)], [(.ref y0), (.ref y1)]) h = xthn W m_Mod_init 152 [some (.ref x0)] [(.ref y0), (.ref y1)] (xstI (h.1 y0) h y0 (Int32.ofInt 0) (Int32.ofInt 0))) ∧
    (∀ (x0 y0 y1 : Nat) (h : xH), W m_Mod_init (152, [some (.ref x0)], [(.ref y0), (.ref y1)]) h = xthn W m_Mod_init 156 [some (.ref x0)] [(.ref y0), (.ref y1)] (xstI (h.1 y0) h y0 (Int32.ofInt 1) (Int32.ofInt 0))) ∧
    (∀ (x0 y0 y1 : Nat) (h : xH), W m_Mod_init (156, [some (.ref x0)], [(.ref y0), (.ref y1)]) h = xthn W m_Mod_init 160 [some (.ref x0)] [(.ref y0), (.ref y1)] (xstI (h.1 y0) h y0 (Int32.ofInt 2) (Int32.ofInt 0))) ∧
    (∀ (x0 y0 y1 : Nat) (h : xH), W m_Mod_init (160, [some (.ref x0)], [(.ref y0), (.ref y1)]) h = xthn W m_Mod_init 164 [some (.ref x0)] [(.ref y0), (.ref y1)] (xstI (h.1 y0) h y0 (Int32.ofInt 3) (Int32.ofInt 0))) ∧
    (∀ (x0 y0 y1 : Nat) (h : xH), W m_Mod_init (164, [some (.ref x0)], [(.ref y0), (.ref y1)]) h = xthn W m_Mod_init 168 [some (.ref x0)] [(.ref y0), (.ref y1)] (xstI (h.1 y0) h y0 (Int32.ofInt 4) (Int32.ofInt 0))) ∧
    (∀ (x0 y0 y1 : Nat) (h : xH), W m_Mod_init (168, [some (.ref x0)], [(.ref y0), (.ref y1)]) h = xthn W m_Mod_init 172 [some (.ref x0)] [(.ref y0), (.ref y1)] (xstI (h.1 y0) h y0 (Int32.ofInt 5) (Int32.ofInt 0))) :=
  ⟨fun _ _ => (xW_k hW 5 _ _ _).trans rfl,
   fun _ _ _ _ => (xW_k hW 1 _ _ _).trans xq_ptf,
   fun _ _ => (xW_k hW 3 _ _ _).trans rfl,
   fun _ _ _ _ => (xW_k hW 1 _ _ _).trans xq_ptf,
   fun _ _ => (xW_k hW 3 _ _ _).trans xq_ptf,
   fun _ _ => (xW_k hW 3 _ _ _).trans rfl,
   fun _ _ _ _ => (xW_k hW 1 _ _ _).trans xq_ptf,
   fun _ _ => (xW_k hW 3 _ _ _).trans rfl,
   fun _ _ _ _ => (xW_k hW 1 _ _ _).trans xq_ptf,
   fun _ _ => (xW_k hW 3 _ _ _).trans rfl,
   fun _ _ _ _ => (xW_k hW 1 _ _ _).trans xq_ptf,
   fun _ _ => (xW_k hW 3 _ _ _).trans rfl,
   fun _ _ _ _ => (xW_k hW 1 _ _ _).trans xq_ptf,
   fun _ _ => (xW_k hW 3 _ _ _).trans rfl,
   fun _ _ _ _ => (xW_k hW 1 _ _ _).trans xq_ptf,
   fun _ _ => (xW_k hW 3 _ _ _).trans rfl,
   fun _ _ _ _ => (xW_k hW 1 _ _ _).trans xq_ptf,
   fun _ _ => (xW_k hW 3 _ _ _).trans rfl,
   fun _ _ _ _ => (xW_k hW 4 _ _ _).trans xq_stI,
   fun _ _ _ _ => (xW_k hW 4 _ _ _).trans xq_stI,
   fun _ _ _ _ => (xW_k hW 4 _ _ _).trans xq_stI,
   fun _ _ _ _ => (xW_k hW 4 _ _ _).trans xq_stI,
   fun _ _ _ _ => (xW_k hW 1 _ _ _).trans xq_ptf,
   fun _ _ => (xW_k hW 3 _ _ _).trans rfl,
   fun _ _ _ _ => (xW_k hW 4 _ _ _).trans xq_stI,
   fun _ _ _ _ => (xW_k hW 4 _ _ _).trans xq_stI,
   fun _ _ _ _ => (xW_k hW 4 _ _ _).trans xq_stI,
   fun _ _ _ _ => (xW_k hW 4 _ _ _).trans xq_stI,
   fun _ _ _ _ => (xW_k hW 4 _ _ _).trans xq_stI,
   fun _ _ _ _ => (xW_k hW 4 _ _ _).trans xq_stI,
   fun _ _ _ _ => (xW_k hW 4 _ _ _).trans xq_stI,
   fun _ _ _ _ => (xW_k hW 4 _ _ _).trans xq_stI,
   fun _ _ _ _ => (xW_k hW 1 _ _ _).trans xq_ptf,
   fun _ _ => (xW_k hW 3 _ _ _).trans rfl,
   fun _ _ _ _ => (xW_k hW 4 _ _ _).trans xq_stI,
   fun _ _ _ _ => (xW_k hW 4 _ _ _).trans xq_stI,
   fun _ _ _ _ => (xW_k hW 4 _ _ _).trans xq_stI,
   fun _ _ _ _ => (xW_k hW 4 _ _ _).trans xq_stI,
   fun _ _ _ _ => (xW_k hW 4 _ _ _).trans xq_stI,
   fun _ _ _ _ => (xW_k hW 4 _ _ _).trans xq_stI⟩
theorem E_Mod_init_p1 (hW : ∀ M f h, W M f h = xbody V xF0 xG W M f h) :
    (∀ (x0 y0 y1 : Nat) (h : xH), W m_Mod_init (172, [some (.ref x0)], [(.ref y0), (.ref y1)]) h = xthn W m_Mod_init 177 [some (.ref x0)] [(.ref y0), (.ref y1)] (xstI (h.1 y0) h y0 (Int32.ofInt 6) (Int32.ofInt 0))) ∧
    (∀ (x0 y0 y1 : Nat) (h : xH), W m_Mod_init (177, [some (.ref x0)], [(.ref y0), (.ref y1)]) h = xthn W m_Mod_init 182 [some (.ref x0)] [(.ref y0), (.ref y1)] (xstI (h.1 y0) h y0 (Int32.ofInt 7) (Int32.ofInt 0))) ∧
    (∀ (x0 y0 y1 : Nat) (h : xH), W m_Mod_init (182, [some (.ref x0)], [(.ref y0), (.ref y1)]) h = xthn W m_Mod_init 185 [some (.ref x0)] [] (xptf (h.1 y1) h y1 7 13 2 (.ref y0))) ∧
    (∀ (x0 : Nat) (h : xH), W m_Mod_init (185, [some (.ref x0)], []) h = xmk W m_Mod_init 190 [some (.ref x0)] [(.ref x0)] h 0 (Int32.ofInt 8)) ∧
    (∀ (x0 y0 y1 : Nat) (h : xH), W m_Mod_init (190, [some (.ref x0)], [(.ref y0), (.ref y1)]) h = xthn W m_Mod_init 194 [some (.ref x0)] [(.ref y0), (.ref y1)] (xstI (h.1 y0) h y0 (Int32.ofInt 0) (Int32.ofInt 0))) ∧
    (∀ (x0 y0 y1 : Nat) (h : xH), W m_Mod_init (194, [some (.ref x0)], [(.ref y0), (.ref y1)]) h = xthn W m_Mod_init 198 [some (.ref x0)] [(.ref y0), (.ref y1)] (xstI (h.1 y0) h y0 (Int32.ofInt 1) (Int32.ofInt 0))) ∧
    (∀ (x0 y0 y1 : Nat) (h : xH), W m_Mod_init (198, [some (.ref x0)], [(.ref y0), (.ref y1)]) h = xthn W m_Mod_init 202 [some (.ref x0)] [(.ref y0), (.ref y1)] (xstI (h.1 y0) h y0 (Int32.ofInt 2) (Int32.ofInt 0))) ∧
    (∀ (x0 y0 y1 : Nat) (h : xH), W m_Mod_init (202, [some (.ref x0)], [(.ref y0), (.ref y1)]) h = xthn W m_Mod_init 206 [some (.ref x0)] [(.ref y0), (.ref y1)] (xstI (h.1 y0) h y0 (Int32.ofInt 3) (Int32.ofInt 0))) ∧
    (∀ (x0 y0 y1 : Nat) (h : xH), W m_Mod_init (206, [some (.ref x0)], [(.ref y0), (.ref y1)]) h = xthn W m_Mod_init 210 [some (.ref x0)] [(.ref y0), (.ref y1)] (xstI (h.1 y0) h y0 (Int32.ofInt 4) (Int32.ofInt 0))) ∧
    (∀ (x0 y0 y1 : Nat) (h : xH), W m_Mod_init (210, [some (.ref x0)], [(.ref y0), (.ref y1)]) h = xthn W m_Mod_init 214 [some (.ref x0)] [(.ref y0), (.ref y1)] (xstI (h.1 y0) h y0 (Int32.ofInt 5) (Int32.ofInt 0))) ∧
    (∀ (x0 y0 y1 : Nat) (h : xH), W m_Mod_init (214, [some (.ref x0)], [(.ref y0), (.ref y1)]) h = xthn W m_Mod_init 219 [some (.ref x0)] [(.ref y0), (.ref y1)] (xstI (h.1 y0) h y0 (Int32.ofInt 6) (Int32.ofInt 0))) ∧
    (∀ (x0 y0 y1 : Nat) (h : xH), W m_Mod_init (219, [some (.ref x0)], [(.ref y0), (.ref y1)]) h = xthn W m_Mod_init 224 [some (.ref x0)] [(.ref y0), (.ref y1)] (xstI (h.1 y0) h y0 (Int32.ofInt 7) (Int32.ofInt 0))) ∧
    (∀ (x0 y0 y1 : Nat) (h : xH), W m_Mod_init (224, [some (.ref x0)], [(.ref y0), (.ref y1)]) h = xthn W m_Mod_init 227 [some (.ref x0)] [] (xptf (h.1 y1) h y1 7 14 2 (.ref y0))) ∧
    (∀ (x0 : Nat) (h : xH), W m_Mod_init (227, [some (.ref x0)], []) h = xmk W m_Mod_init 232 [some (.ref x0)] [(.ref x0)] h 2 (Int32.ofInt 8)) ∧
    (∀ (x0 y0 y1 : Nat) (h : xH), W m_Mod_init (232, [some (.ref x0)], [(.ref y0), (.ref y1)]) h = xthn W m_Mod_init 235 [some (.ref x0)] [] (xptf (h.1 y1) h y1 7 15 2 (.ref y0))) ∧
    (∀ (x0 : Nat) (h : xH), W m_Mod_init (235, [some (.ref x0)], []) h = xmk W m_Mod_init 240 [some (.ref x0)] [(.ref x0)] h 0 (Int32.ofInt 8)) ∧
    (∀ (x0 y0 y1 : Nat) (h : xH), W m_Mod_init (240, [some (.ref x0)], [(.ref y0), (.ref y1)]) h = xthn W m_Mod_init 243 [some (.ref x0)] [] (xptf (h.1 y1) h y1 7 16 2 (.ref y0))) ∧
    (∀ (x0 : Nat) (h : xH), W m_Mod_init (243, [some (.ref x0)], []) h = xmk W m_Mod_init 249 [some (.ref x0)] [(.ref x0)] h 0 (Int32.ofInt 3200)) ∧
    (∀ (x0 y0 y1 : Nat) (h : xH), W m_Mod_init (249, [some (.ref x0)], [(.ref y0), (.ref y1)]) h = xthn W m_Mod_init 252 [some (.ref x0)] [] (xptf (h.1 y1) h y1 7 17 2 (.ref y0))) ∧
    (∀ (x0 : Nat) (h : xH), W m_Mod_init (252, [some (.ref x0)], []) h = xmk W m_Mod_init 258 [some (.ref x0)] [(.ref x0)] h 0 (Int32.ofInt 3200)) ∧
    (∀ (x0 y0 y1 : Nat) (h : xH), W m_Mod_init (258, [some (.ref x0)], [(.ref y0), (.ref y1)]) h = xthn W m_Mod_init 261 [some (.ref x0)] [] (xptf (h.1 y1) h y1 7 18 2 (.ref y0))) ∧
    (∀ (x0 : Nat) (h : xH), W m_Mod_init (261, [some (.ref x0)], []) h = xmk W m_Mod_init 266 [some (.ref x0)] [(.ref x0)] h 0 (Int32.ofInt 16)) ∧
    (∀ (x0 y0 y1 : Nat) (h : xH), W m_Mod_init (266, [some (.ref x0)], [(.ref y0), (.ref y1)]) h = xthn W m_Mod_init 269 [some (.ref x0)] [] (xptf (h.1 y1) h y1 7 25 2 (.ref y0))) ∧
    (∀ (x0 : Nat) (h : xH), W m_Mod_init (269, [some (.ref x0)], []) h = xmk W m_Mod_init 274 [some (.ref x0)] [(.ref x0)] h 0 (Int32.ofInt 16)) ∧
    (∀ (x0 y0 y1 : Nat) (h : xH), W m_Mod_init (274, [some (.ref x0)], [(.ref y0), (.ref y1)]) h = xthn W m_Mod_init 277 [some (.ref x0)] [] (xptf (h.1 y1) h y1 7 26 2 (.ref y0))) ∧
    (∀ (x0 : Nat) (h : xH), W m_Mod_init (277, [some (.ref x0)], []) h = xmk W m_Mod_init 282 [some (.ref x0)] [(.ref x0)] h 0 (Int32.ofInt 16)) ∧
    (∀ (x0 y0 y1 : Nat) (h : xH), W m_Mod_init (282, [some (.ref x0)], [(.ref y0), (.ref y1)]) h = xthn W m_Mod_init 285 [some (.ref x0)] [] (xptf (h.1 y1) h y1 7 27 2 (.ref y0))) ∧
    (∀ (x0 : Nat) (h : xH), W m_Mod_init (285, [some (.ref x0)], []) h = xmk W m_Mod_init 290 [some (.ref x0)] [(.ref x0)] h 0 (Int32.ofInt 16)) ∧
    (∀ (x0 y0 y1 : Nat) (h : xH), W m_Mod_init (290, [some (.ref x0)], [(.ref y0), (.ref y1)]) h = xthn W m_Mod_init 293 [some (.ref x0)] [] (xptf (h.1 y1) h y1 7 28 2 (.ref y0))) ∧
    (∀ (x0 : Nat) (h : xH), W m_Mod_init (293, [some (.ref x0)], []) h = xmk W m_Mod_init 298 [some (.ref x0)] [(.ref x0)] h 0 (Int32.ofInt 16)) ∧
    (∀ (x0 y0 y1 : Nat) (h : xH), W m_Mod_init (298, [some (.ref x0)], [(.ref y0), (.ref y1)]) h = xthn W m_Mod_init 301 [some (.ref x0)] [] (xptf (h.1 y1) h y1 7 29 2 (.ref y0))) ∧
    (∀ (x0 : Nat) (h : xH), W m_Mod_init (301, [some (.ref x0)], []) h = xmk W m_Mod_init 306 [some (.ref x0)] [(.ref x0)] h 0 (Int32.ofInt 16)) ∧
    (∀ (x0 y0 y1 : Nat) (h : xH), W m_Mod_init (306, [some (.ref x0)], [(.ref y0), (.ref y1)]) h = xthn W m_Mod_init 309 [some (.ref x0)] [] (xptf (h.1 y1) h y1 7 30 2 (.ref y0))) ∧
    (∀ (x0 : Nat) (h : xH), W m_Mod_init (309, [some (.ref x0)], []) h = some (.inl none, h)) :=
  ⟨fun _ _ _ _ => (xW_k hW 4 _ _ _).trans xq_stI,
   fun _ _ _ _ => (xW_k hW 4 _ _ _).trans xq_stI,
   fun _ _ _ _ => (xW_k hW 1 _ _ _).trans xq_ptf,
   fun _ _ => (xW_k hW 3 _ _ _).trans rfl,
   fun _ _ _ _ => (xW_k hW 4 _ _ _).trans xq_stI,
   fun _ _ _ _ => (xW_k hW 4 _ _ _).trans xq_stI,
   fun _ _ _ _ => (xW_k hW 4 _ _ _).trans xq_stI,
   fun _ _ _ _ => (xW_k hW 4 _ _ _).trans xq_stI,
   fun _ _ _ _ => (xW_k hW 4 _ _ _).trans xq_stI,
   fun _ _ _ _ => (xW_k hW 4 _ _ _).trans xq_stI,
   fun _ _ _ _ => (xW_k hW 4 _ _ _).trans xq_stI,
   fun _ _ _ _ => (xW_k hW 4 _ _ _).trans xq_stI,
   fun _ _ _ _ => (xW_k hW 1 _ _ _).trans xq_ptf,
   fun _ _ => (xW_k hW 3 _ _ _).trans rfl,
   fun _ _ _ _ => (xW_k hW 1 _ _ _).trans xq_ptf,
   fun _ _ => (xW_k hW 3 _ _ _).trans rfl,
   fun _ _ _ _ => (xW_k hW 1 _ _ _).trans xq_ptf,
   fun _ _ => (xW_k hW 3 _ _ _).trans rfl,
   fun _ _ _ _ => (xW_k hW 1 _ _ _).trans xq_ptf,
   fun _ _ => (xW_k hW 3 _ _ _).trans rfl,
   fun _ _ _ _ => (xW_k hW 1 _ _ _).trans xq_ptf,
   fun _ _ => (xW_k hW 3 _ _ _).trans rfl,
   fun _ _ _ _ => (xW_k hW 1 _ _ _).trans xq_ptf,
   fun _ _ => (xW_k hW 3 _ _ _).trans rfl,
   fun _ _ _ _ => (xW_k hW 1 _ _ _).trans xq_ptf,
   fun _ _ => (xW_k hW 3 _ _ _).trans rfl,
   fun _ _ _ _ => (xW_k hW 1 _ _ _).trans xq_ptf,
   fun _ _ => (xW_k hW 3 _ _ _).trans rfl,
   fun _ _ _ _ => (xW_k hW 1 _ _ _).trans xq_ptf,
   fun _ _ => (xW_k hW 3 _ _ _).trans rfl,
   fun _ _ _ _ => (xW_k hW 1 _ _ _).trans xq_ptf,
   fun _ _ => (xW_k hW 3 _ _ _).trans rfl,
   fun _ _ _ _ => (xW_k hW 1 _ _ _).trans xq_ptf,
   fun _ _ => (xW_k hW 1 _ _ _).trans rfl⟩
theorem X_Mod_init : xhs m_Mod_init = [] := rfl
theorem E_Mod_thrown (hW : ∀ M f h, W M f h = xbody V xF0 xG W M f h) :
    (∀ (x0 : Nat) (h : xH), W m_Mod_thrown (0, [some (.ref x0)], []) h = xpush W m_Mod_thrown 4 [some (.ref x0)] [] h (xfld 7 0 (h.1 x0))) ∧
    (∀ (x0 : Nat) (y0 : Int32) (h : xH), W m_Mod_thrown (4, [some (.ref x0)], [(.int y0)]) h = some (.inl (some (.int y0)), h)) :=
  ⟨fun _ _ => (xW_k hW 2 _ _ _).trans xq_fld,
   fun _ _ _ => (xW_k hW 1 _ _ _).trans rfl⟩
theorem X_Mod_thrown : xhs m_Mod_thrown = [] := rfl
theorem E_Mod_colour (hW : ∀ M f h, W M f h = xbody V xF0 xG W M f h) :
    (∀ (x0 : Nat) (x1 x2 x3 : Int32) (h : xH), W m_Mod_colour (0, [some (.ref x0), some (.int x1), some (.int x2), some (.int x3), none], []) h = xthn W m_Mod_colour 5 [some (.ref x0), some (.int x1), some (.int x2), some (.int x3), none] [] (xptf (h.1 x0) h x0 7 0 0 (.int (Int32.ofInt 0)))) ∧
    (∀ (x0 : Nat) (x1 x2 x3 : Int32) (h : xH), W m_Mod_colour (5, [some (.ref x0), some (.int x1), some (.int x2), some (.int x3), none], []) h = xret W m_Mod_colour 9 12 [some (.ref x0), some (.int x1), some (.int x2), some (.int x3), none] [] (W m_Mod_within (0, [some (.int x1), some (.int (Int32.ofInt 0)), some (.int (Int32.ofInt 63))], []) h)) ∧
    (∀ (x0 : Nat) (x1 x2 x3 y0 : Int32) (h : xH), W m_Mod_colour (12, [some (.ref x0), some (.int x1), some (.int x2), some (.int x3), none], [(.int y0)]) h = if y0 = (Int32.ofInt 0) then W m_Mod_colour (25, [some (.ref x0), some (.int x1), some (.int x2), some (.int x3), none], []) h else W m_Mod_colour (15, [some (.ref x0), some (.int x1), some (.int x2), some (.int x3), none], []) h) ∧
    (∀ (x0 : Nat) (x1 x2 x3 : Int32) (h : xH), W m_Mod_colour (15, [some (.ref x0), some (.int x1), some (.int x2), some (.int x3), none], []) h = xret W m_Mod_colour 19 22 [some (.ref x0), some (.int x1), some (.int x2), some (.int x3), none] [] (W m_Mod_within (0, [some (.int x2), some (.int (Int32.ofInt 0)), some (.int (Int32.ofInt 7))], []) h)) ∧
    (∀ (x0 : Nat) (x1 x2 x3 y0 : Int32) (h : xH), W m_Mod_colour (22, [some (.ref x0), some (.int x1), some (.int x2), some (.int x3), none], [(.int y0)]) h = if y0 = (Int32.ofInt 0) then W m_Mod_colour (25, [some (.ref x0), some (.int x1), some (.int x2), some (.int x3), none], []) h else W m_Mod_colour (31, [some (.ref x0), some (.int x1), some (.int x2), some (.int x3), none], []) h) ∧
    (∀ (x0 : Nat) (x1 x2 x3 : Int32) (h : xH), W m_Mod_colour (25, [some (.ref x0), some (.int x1), some (.int x2), some (.int x3), none], []) h = xret W m_Mod_colour 27 30 [some (.ref x0), some (.int x1), some (.int x2), some (.int x3), none] [] (xrc 7 (h.1 x0) (W m_Mod_fail (0, [some (.ref x0), some (.int (Int32.ofInt 1))], []) h))) ∧
    (∀ (x0 : Nat) (x1 x2 x3 y0 : Int32) (h : xH), W m_Mod_colour (30, [some (.ref x0), some (.int x1), some (.int x2), some (.int x3), none], [(.int y0)]) h = some (.inl (some (.int y0)), h)) ∧
    (∀ (x0 : Nat) (x1 x2 x3 : Int32) (h : xH), W m_Mod_colour (31, [some (.ref x0), some (.int x1), some (.int x2), some (.int x3), none], []) h = xret W m_Mod_colour 36 39 [some (.ref x0), some (.int x1), some (.int x2), some (.int x3), none] [] (W m_Mod_within (0, [some (.int x3), some (.int (Int32.ofInt 0)), some (.int (Int32.ofInt 255))], []) h)) ∧
    (∀ (x0 : Nat) (x1 x2 x3 y0 : Int32) (h : xH), W m_Mod_colour (39, [some (.ref x0), some (.int x1), some (.int x2), some (.int x3), none], [(.int y0)]) h = if y0 = (Int32.ofInt 0) then W m_Mod_colour (42, [some (.ref x0), some (.int x1), some (.int x2), some (.int x3), none], []) h else W m_Mod_colour (48, [some (.ref x0), some (.int x1), some (.int x2), some (.int x3), none], []) h) ∧
    (∀ (x0 : Nat) (x1 x2 x3 : Int32) (h : xH), W m_Mod_colour (42, [some (.ref x0), some (.int x1), some (.int x2), some (.int x3), none], []) h = xret W m_Mod_colour 44 47 [some (.ref x0), some (.int x1), some (.int x2), some (.int x3), none] [] (xrc 7 (h.1 x0) (W m_Mod_fail (0, [some (.ref x0), some (.int (Int32.ofInt 2))], []) h))) ∧
    (∀ (x0 : Nat) (x1 x2 x3 y0 : Int32) (h : xH), W m_Mod_colour (47, [some (.ref x0), some (.int x1), some (.int x2), some (.int x3), none], [(.int y0)]) h = some (.inl (some (.int y0)), h)) ∧
    (∀ (x0 : Nat) (x1 x2 x3 : Int32) (h : xH), W m_Mod_colour (48, [some (.ref x0), some (.int x1), some (.int x2), some (.int x3), none], []) h = W m_Mod_colour (51, [some (.ref x0), some (.int x1), some (.int x2), some (.int x3), some (.int (Int32.ofInt 4))], []) h) ∧
    (∀ (x0 : Nat) (x1 x2 x3 x4 : Int32) (h : xH), W m_Mod_colour (58, [some (.ref x0), some (.int x1), some (.int x2), some (.int x3), some (.int x4)], []) h = if x3 ≤ (Int32.ofInt 0) then W m_Mod_colour (94, [some (.ref x0), some (.int x1), some (.int x2), some (.int x3), some (.int x4)], []) h else W m_Mod_colour (62, [some (.ref x0), some (.int x1), some (.int x2), some (.int x3), some (.int x4)], []) h) ∧
    (∀ (x0 : Nat) (x1 x2 x3 x4 : Int32) (h : xH), W m_Mod_colour (62, [some (.ref x0), some (.int x1), some (.int x2), some (.int x3), some (.int x4)], []) h = if x2 ≤ (Int32.ofInt 3) then W m_Mod_colour (94, [some (.ref x0), some (.int x1), some (.int x2), some (.int x3), some (.int x4)], []) h else W m_Mod_colour (67, [some (.ref x0), some (.int x1), some (.int x2), some (.int x3), some (.int x4)], []) h) ∧
    (∀ (x0 : Nat) (x1 x2 x3 x4 : Int32) (h : xH), W m_Mod_colour (67, [some (.ref x0), some (.int x1), some (.int x2), some (.int x3), some (.int x4)], []) h = if x4 = x2 then W m_Mod_colour (94, [some (.ref x0), some (.int x1), some (.int x2), some (.int x3), some (.int x4)], []) h else W m_Mod_colour (73, [some (.ref x0), some (.int x1), some (.int x2), some (.int x3), some (.int x4)], []) h) ∧
    (∀ (x0 : Nat) (x1 x2 x3 x4 : Int32) (h : xH), W m_Mod_colour (73, [some (.ref x0), some (.int x1), some (.int x2), some (.int x3), some (.int x4)], []) h = xpush W m_Mod_colour 77 [some (.ref x0), some (.int x1), some (.int x2), some (.int x3), some (.int x4)] [] h (xfld 7 1 (h.1 x0))) ∧
    (∀ (x0 y0 : Nat) (x1 x2 x3 x4 : Int32) (h : xH), W m_Mod_colour (77, [some (.ref x0), some (.int x1), some (.int x2), some (.int x3), some (.int x4)], [(.ref y0)]) h = xpush W m_Mod_colour 85 [some (.ref x0), some (.int x1), some (.int x2), some (.int x3), some (.int x4)] [] h (xldI (h.1 y0) (((Int32.ofInt 8) * x1) + x4))) ∧
    (∀ (x0 : Nat) (x1 x2 x3 x4 y0 : Int32) (h : xH), W m_Mod_colour (85, [some (.ref x0), some (.int x1), some (.int x2), some (.int x3), some (.int x4)], [(.int y0)]) h = if y0 ≤ (Int32.ofInt 0) then W m_Mod_colour (94, [some (.ref x0), some (.int x1), some (.int x2), some (.int x3), some (.int x4)], []) h else W m_Mod_colour (88, [some (.ref x0), some (.int x1), some (.int x2), some (.int x3), some (.int x4)], []) h) ∧
    (∀ (x0 : Nat) (x1 x2 x3 x4 : Int32) (h : xH), W m_Mod_colour (88, [some (.ref x0), some (.int x1), some (.int x2), some (.int x3), some (.int x4)], []) h = xret W m_Mod_colour 90 93 [some (.ref x0), some (.int x1), some (.int x2), some (.int x3), some (.int x4)] [] (xrc 7 (h.1 x0) (W m_Mod_fail (0, [some (.ref x0), some (.int (Int32.ofInt 3))], []) h))) ∧
    (∀ (x0 : Nat) (x1 x2 x3 x4 y0 : Int32) (h : xH), W m_Mod_colour (93, [some (.ref x0), some (.int x1), some (.int x2), some (.int x3), some (.int x4)], [(.int y0)]) h = some (.inl (some (.int y0)), h)) ∧
    (∀ (x0 : Nat) (x1 x2 x3 x4 : Int32) (h : xH), W m_Mod_colour (94, [some (.ref x0), some (.int x1), some (.int x2), some (.int x3), some (.int x4)], []) h = W m_Mod_colour (51, [some (.ref x0), some (.int x1), some (.int x2), some (.int x3), some (.int (x4 + (Int32.ofInt 1)))], []) h) ∧
    (∀ (x0 : Nat) (x1 x2 x3 x4 : Int32) (h : xH), W m_Mod_colour (100, [some (.ref x0), some (.int x1), some (.int x2), some (.int x3), some (.int x4)], []) h = xpush W m_Mod_colour 104 [some (.ref x0), some (.int x1), some (.int x2), some (.int x3), some (.int x4)] [] h (xfld 7 1 (h.1 x0))) ∧
    (∀ (x0 y0 : Nat) (x1 x2 x3 x4 : Int32) (h : xH), W m_Mod_colour (104, [some (.ref x0), some (.int x1), some (.int x2), some (.int x3), some (.int x4)], [(.ref y0)]) h = xpush W m_Mod_colour 111 [some (.ref x0), some (.int x1), some (.int x2), some (.int x3), some (.int x4)] [] h (xldI (h.1 y0) (((Int32.ofInt 8) * x1) + x2))) ∧
    (∀ (x0 : Nat) (x1 x2 x3 x4 y0 : Int32) (h : xH), W m_Mod_colour (111, [some (.ref x0), some (.int x1), some (.int x2), some (.int x3), some (.int x4)], [(.int y0)]) h = xpush W m_Mod_colour 117 [some (.ref x0), some (.int x1), some (.int x2), some (.int x3), some (.int y0)] [] h (xfld 7 1 (h.1 x0))) ∧
    (∀ (x0 y0 : Nat) (x1 x2 x3 x4 : Int32) (h : xH), W m_Mod_colour (117, [some (.ref x0), some (.int x1), some (.int x2), some (.int x3), some (.int x4)], [(.ref y0)]) h = xthn W m_Mod_colour 125 [some (.ref x0), some (.int x1), some (.int x2), some (.int x3), some (.int x4)] [] (xstI (h.1 y0) h y0 (((Int32.ofInt 8) * x1) + x2) x3)) ∧
    (∀ (x0 : Nat) (x1 x2 x3 x4 : Int32) (h : xH), W m_Mod_colour (125, [some (.ref x0), some (.int x1), some (.int x2), some (.int x3), some (.int x4)], []) h = some (.inl (some (.int x4)), h)) :=
  ⟨fun _ _ _ _ _ => (xW_k hW 3 _ _ _).trans xq_ptf,
   fun _ _ _ _ _ => (xW_k hW 4 _ _ _).trans rfl,
   fun _ _ _ _ _ _ => (xW_k hW 1 _ _ _).trans rfl,
   fun _ _ _ _ _ => (xW_k hW 4 _ _ _).trans rfl,
   fun _ _ _ _ _ _ => (xW_k hW 1 _ _ _).trans rfl,
   fun _ _ _ _ _ => (xW_k hW 3 _ _ _).trans xq_rc,
   fun _ _ _ _ _ _ => (xW_k hW 1 _ _ _).trans rfl,
   fun _ _ _ _ _ => (xW_k hW 4 _ _ _).trans rfl,
   fun _ _ _ _ _ _ => (xW_k hW 1 _ _ _).trans rfl,
   fun _ _ _ _ _ => (xW_k hW 3 _ _ _).trans xq_rc,
   fun _ _ _ _ _ _ => (xW_k hW 1 _ _ _).trans rfl,
   fun _ _ _ _ _ => (xW_k hW 2 _ _ _).trans rfl,
   fun _ _ _ _ _ _ => (xW_k hW 2 _ _ _).trans rfl,
   fun _ _ _ _ _ _ => (xW_k hW 3 _ _ _).trans rfl,
   fun _ _ _ _ _ _ => (xW_k hW 3 _ _ _).trans rfl,
   fun _ _ _ _ _ _ => (xW_k hW 2 _ _ _).trans xq_fld,
   fun _ _ _ _ _ _ _ => (xW_k hW 6 _ _ _).trans xq_ldI,
   fun _ _ _ _ _ _ _ => (xW_k hW 1 _ _ _).trans rfl,
   fun _ _ _ _ _ _ => (xW_k hW 3 _ _ _).trans xq_rc,
   fun _ _ _ _ _ _ _ => (xW_k hW 1 _ _ _).trans rfl,
   fun _ _ _ _ _ _ => (xW_k hW 2 _ _ _).trans rfl,
   fun _ _ _ _ _ _ => (xW_k hW 2 _ _ _).trans xq_fld,
   fun _ _ _ _ _ _ _ => (xW_k hW 6 _ _ _).trans xq_ldI,
   fun _ _ _ _ _ _ _ => (xW_k hW 3 _ _ _).trans xq_fld,
   fun _ _ _ _ _ _ _ => (xW_k hW 7 _ _ _).trans xq_stI,
   fun _ _ _ _ _ _ => (xW_k hW 2 _ _ _).trans rfl⟩
theorem L_Mod_colour_51 (hW : ∀ M f h, W M f h = xbody V xF0 xG W M f h) :
    (∀ (x0 : Nat) (x1 x2 x3 x4 : Int32) (h : xH), W m_Mod_colour (51, [some (.ref x0), some (.int x1), some (.int x2), some (.int x3), some (.int x4)], []) h = if (Int32.ofInt 8) ≤ x4 then W m_Mod_colour (100, [some (.ref x0), some (.int x1), some (.int x2), some (.int x3), some (.int x4)], []) h else W m_Mod_colour (58, [some (.ref x0), some (.int x1), some (.int x2), some (.int x3), some (.int x4)], []) h) :=
  fun _ _ _ _ _ _ => (xW_k hW 3 _ _ _).trans rfl
theorem X_Mod_colour : xhs m_Mod_colour = [] := rfl
end XEQ
