section XEQ
variable {V : Nat → Value} {W : xM → xF → xH → Option xR}
theorem E_Law_colour (hW : ∀ M f h, W M f h = xbody V xF0 xG W M f h) :
    (∀ (x0 x4 : Nat) (x1 x2 x3 : Int32) (h : xH), W m_Law_colour (0, [some (.ref x0), some (.int x1), some (.int x2), some (.int x3), some (.ref x4), none], []) h = xret W m_Law_colour 7 10 [some (.ref x0), some (.int x1), some (.int x2), some (.int x3), some (.ref x4), none] [(.int (Int32.ofInt 0)), (.ref x4)] (xrc 0 (h.1 x0) (W m_Room_colour (0, [some (.ref x0), some (.int x1), some (.int x2), some (.int x3), none, none], []) h))) ∧
    (∀ (x0 x4 y2 : Nat) (x1 x2 x3 y0 y1 : Int32) (h : xH), W m_Law_colour (10, [some (.ref x0), some (.int x1), some (.int x2), some (.int x3), some (.ref x4), none], [(.int y0), (.int y1), (.ref y2)]) h = xthn W m_Law_colour 12 [some (.ref x0), some (.int x1), some (.int x2), some (.int x3), some (.ref x4), none] [] (xstL (h.1 y2) h y2 y1 (Int32.toInt64 y0))) ∧
    (∀ (x0 x4 : Nat) (x1 x2 x3 : Int32) (h : xH), W m_Law_colour (12, [some (.ref x0), some (.int x1), some (.int x2), some (.int x3), some (.ref x4), none], []) h = some (.inl (some (.int (Int32.ofInt 0))), h)) ∧
    (∀ (x0 x4 y0 : Nat) (x1 x2 x3 : Int32) (h : xH), W m_Law_colour (15, [some (.ref x0), some (.int x1), some (.int x2), some (.int x3), some (.ref x4), none], [(.ref y0)]) h = some (.inl (some (.int (Int32.ofInt 1))), h)) ∧
    (∀ (x0 x4 y0 : Nat) (x1 x2 x3 : Int32) (h : xH), W m_Law_colour (19, [some (.ref x0), some (.int x1), some (.int x2), some (.int x3), some (.ref x4), none], [(.ref y0)]) h = some (.inl (some (.int (Int32.ofInt 2))), h)) ∧
    (∀ (x0 x4 y0 : Nat) (x1 x2 x3 : Int32) (h : xH), W m_Law_colour (23, [some (.ref x0), some (.int x1), some (.int x2), some (.int x3), some (.ref x4), none], [(.ref y0)]) h = some (.inl (some (.int (Int32.ofInt 3))), h)) :=
  ⟨fun _ _ _ _ _ _ => (xW_k hW 7 _ _ _).trans xq_rc,
   fun _ _ _ _ _ _ _ _ _ => (xW_k hW 2 _ _ _).trans xq_stL,
   fun _ _ _ _ _ _ => (xW_k hW 3 _ _ _).trans rfl,
   fun _ _ _ _ _ _ _ => (xW_k hW 3 _ _ _).trans rfl,
   fun _ _ _ _ _ _ _ => (xW_k hW 3 _ _ _).trans rfl,
   fun _ _ _ _ _ _ _ => (xW_k hW 3 _ _ _).trans rfl⟩
theorem E_Room_colour (hW : ∀ M f h, W M f h = xbody V xF0 xG W M f h) :
    (∀ (x0 : Nat) (x1 x2 x3 : Int32) (h : xH), W m_Room_colour (0, [some (.ref x0), some (.int x1), some (.int x2), some (.int x3), none, none], []) h = xret W m_Room_colour 3 6 [some (.ref x0), some (.int x1), some (.int x2), some (.int x3), none, none] [] (W m_Room_needIndex (0, [some (.int x1), some (.int (Int32.ofInt 64))], []) h)) ∧
    (∀ (x0 : Nat) (x1 x2 x3 : Int32) (h : xH), W m_Room_colour (6, [some (.ref x0), some (.int x1), some (.int x2), some (.int x3), none, none], []) h = xret W m_Room_colour 9 12 [some (.ref x0), some (.int x1), some (.int x2), some (.int x3), none, none] [] (W m_Room_needIndex (0, [some (.int x2), some (.int (Int32.ofInt 8))], []) h)) ∧
    (∀ (x0 : Nat) (x1 x2 x3 : Int32) (h : xH), W m_Room_colour (12, [some (.ref x0), some (.int x1), some (.int x2), some (.int x3), none, none], []) h = xret W m_Room_colour 17 20 [some (.ref x0), some (.int x1), some (.int x2), some (.int x3), none, none] [] (W m_Room_needBetween (0, [some (.int x3), some (.int (Int32.ofInt 0)), some (.int (Int32.ofInt 255))], []) h)) ∧
    (∀ (x0 : Nat) (x1 x2 x3 : Int32) (h : xH), W m_Room_colour (20, [some (.ref x0), some (.int x1), some (.int x2), some (.int x3), none, none], []) h = if x3 ≤ (Int32.ofInt 0) then W m_Room_colour (48, [some (.ref x0), some (.int x1), some (.int x2), some (.int x3), none, none], []) h else W m_Room_colour (24, [some (.ref x0), some (.int x1), some (.int x2), some (.int x3), none, none], []) h) ∧
    (∀ (x0 : Nat) (x1 x2 x3 : Int32) (h : xH), W m_Room_colour (24, [some (.ref x0), some (.int x1), some (.int x2), some (.int x3), none, none], []) h = if x2 < (Int32.ofInt 4) then W m_Room_colour (48, [some (.ref x0), some (.int x1), some (.int x2), some (.int x3), none, none], []) h else W m_Room_colour (29, [some (.ref x0), some (.int x1), some (.int x2), some (.int x3), none, none], []) h) ∧
    (∀ (x0 : Nat) (x1 x2 x3 : Int32) (h : xH), W m_Room_colour (29, [some (.ref x0), some (.int x1), some (.int x2), some (.int x3), none, none], []) h = xret W m_Room_colour 32 35 [some (.ref x0), some (.int x1), some (.int x2), some (.int x3), none, none] [] (xrc 0 (h.1 x0) (W m_Room_hasOtherSpot (0, [some (.ref x0), some (.int x1), some (.int x2), none], []) h))) ∧
    (∀ (x0 : Nat) (x1 x2 x3 y0 : Int32) (h : xH), W m_Room_colour (35, [some (.ref x0), some (.int x1), some (.int x2), some (.int x3), none, none], [(.int y0)]) h = if y0 = (Int32.ofInt 0) then W m_Room_colour (48, [some (.ref x0), some (.int x1), some (.int x2), some (.int x3), none, none], []) h else W m_Room_colour (38, [some (.ref x0), some (.int x1), some (.int x2), some (.int x3), none, none], []) h) ∧
    (∀ (x0 : Nat) (x1 x2 x3 : Int32) (h : xH), W m_Room_colour (38, [some (.ref x0), some (.int x1), some (.int x2), some (.int x3), none, none], []) h = some (.inr (10, h.2.1), xnew h (xO' 10 []) 6)) ∧
    (∀ (x0 : Nat) (x1 x2 x3 : Int32) (h : xH), W m_Room_colour (48, [some (.ref x0), some (.int x1), some (.int x2), some (.int x3), none, none], []) h = xpush W m_Room_colour 60 [some (.ref x0), some (.int x1), some (.int x2), some (.int x3), some (.int ((x1 * (Int32.ofInt 8)) + x2)), none] [] h (xfld 0 0 (h.1 x0))) ∧
    (∀ (x0 y0 : Nat) (x1 x2 x3 x4 : Int32) (h : xH), W m_Room_colour (60, [some (.ref x0), some (.int x1), some (.int x2), some (.int x3), some (.int x4), none], [(.ref y0)]) h = xpush W m_Room_colour 63 [some (.ref x0), some (.int x1), some (.int x2), some (.int x3), some (.int x4), none] [] h (xldI (h.1 y0) x4)) ∧
    (∀ (x0 : Nat) (x1 x2 x3 x4 y0 : Int32) (h : xH), W m_Room_colour (63, [some (.ref x0), some (.int x1), some (.int x2), some (.int x3), some (.int x4), none], [(.int y0)]) h = xpush W m_Room_colour 69 [some (.ref x0), some (.int x1), some (.int x2), some (.int x3), some (.int x4), some (.int y0)] [] h (xfld 0 0 (h.1 x0))) ∧
    (∀ (x0 y0 : Nat) (x1 x2 x3 x4 x5 : Int32) (h : xH), W m_Room_colour (69, [some (.ref x0), some (.int x1), some (.int x2), some (.int x3), some (.int x4), some (.int x5)], [(.ref y0)]) h = xthn W m_Room_colour 73 [some (.ref x0), some (.int x1), some (.int x2), some (.int x3), some (.int x4), some (.int x5)] [] (xstI (h.1 y0) h y0 x4 x3)) ∧
    (∀ (x0 : Nat) (x1 x2 x3 x4 x5 : Int32) (h : xH), W m_Room_colour (73, [some (.ref x0), some (.int x1), some (.int x2), some (.int x3), some (.int x4), some (.int x5)], []) h = some (.inl (some (.int x5)), h)) :=
  ⟨fun _ _ _ _ _ => (xW_k hW 3 _ _ _).trans rfl,
   fun _ _ _ _ _ => (xW_k hW 3 _ _ _).trans rfl,
   fun _ _ _ _ _ => (xW_k hW 4 _ _ _).trans rfl,
   fun _ _ _ _ _ => (xW_k hW 2 _ _ _).trans rfl,
   fun _ _ _ _ _ => (xW_k hW 3 _ _ _).trans rfl,
   fun _ _ _ _ _ => (xW_k hW 4 _ _ _).trans xq_rc,
   fun _ _ _ _ _ _ => (xW_k hW 1 _ _ _).trans rfl,
   fun _ _ _ _ _ => (xW_k hW 1 _ _ _).trans rfl,
   fun _ _ _ _ _ => (xW_k hW 8 _ _ _).trans xq_fld,
   fun _ _ _ _ _ _ _ => (xW_k hW 2 _ _ _).trans xq_ldI,
   fun _ _ _ _ _ _ _ => (xW_k hW 3 _ _ _).trans xq_fld,
   fun _ _ _ _ _ _ _ _ => (xW_k hW 3 _ _ _).trans xq_stI,
   fun _ _ _ _ _ _ _ => (xW_k hW 2 _ _ _).trans rfl⟩
theorem X_Room_colour : xhs m_Room_colour = [] := rfl
theorem E_Room_needIndex (hW : ∀ M f h, W M f h = xbody V xF0 xG W M f h) :
    (∀ (x0 x1 : Int32) (h : xH), W m_Room_needIndex (0, [some (.int x0), some (.int x1)], []) h = if x0 < (Int32.ofInt 0) then W m_Room_needIndex (9, [some (.int x0), some (.int x1)], []) h else W m_Room_needIndex (4, [some (.int x0), some (.int x1)], []) h) ∧
    (∀ (x0 x1 : Int32) (h : xH), W m_Room_needIndex (4, [some (.int x0), some (.int x1)], []) h = if x0 < x1 then W m_Room_needIndex (19, [some (.int x0), some (.int x1)], []) h else W m_Room_needIndex (9, [some (.int x0), some (.int x1)], []) h) ∧
    (∀ (x0 x1 : Int32) (h : xH), W m_Room_needIndex (9, [some (.int x0), some (.int x1)], []) h = some (.inr (8, h.2.1), xnew h (xO' 8 []) 6)) ∧
    (∀ (x0 x1 : Int32) (h : xH), W m_Room_needIndex (19, [some (.int x0), some (.int x1)], []) h = some (.inl none, h)) :=
  ⟨fun _ _ _ => (xW_k hW 2 _ _ _).trans rfl,
   fun _ _ _ => (xW_k hW 3 _ _ _).trans rfl,
   fun _ _ _ => (xW_k hW 1 _ _ _).trans rfl,
   fun _ _ _ => (xW_k hW 1 _ _ _).trans rfl⟩
theorem X_Room_needIndex : xhs m_Room_needIndex = [] := rfl
theorem E_Room_needBetween (hW : ∀ M f h, W M f h = xbody V xF0 xG W M f h) :
    (∀ (x0 x1 x2 : Int32) (h : xH), W m_Room_needBetween (0, [some (.int x0), some (.int x1), some (.int x2)], []) h = if x0 < x1 then W m_Room_needBetween (10, [some (.int x0), some (.int x1), some (.int x2)], []) h else W m_Room_needBetween (5, [some (.int x0), some (.int x1), some (.int x2)], []) h) ∧
    (∀ (x0 x1 x2 : Int32) (h : xH), W m_Room_needBetween (5, [some (.int x0), some (.int x1), some (.int x2)], []) h = if x0 ≤ x2 then W m_Room_needBetween (20, [some (.int x0), some (.int x1), some (.int x2)], []) h else W m_Room_needBetween (10, [some (.int x0), some (.int x1), some (.int x2)], []) h) ∧
    (∀ (x0 x1 x2 : Int32) (h : xH), W m_Room_needBetween (10, [some (.int x0), some (.int x1), some (.int x2)], []) h = some (.inr (9, h.2.1), xnew h (xO' 9 []) 6)) ∧
    (∀ (x0 x1 x2 : Int32) (h : xH), W m_Room_needBetween (20, [some (.int x0), some (.int x1), some (.int x2)], []) h = some (.inl none, h)) :=
  ⟨fun _ _ _ _ => (xW_k hW 3 _ _ _).trans rfl,
   fun _ _ _ _ => (xW_k hW 3 _ _ _).trans rfl,
   fun _ _ _ _ => (xW_k hW 1 _ _ _).trans rfl,
   fun _ _ _ _ => (xW_k hW 1 _ _ _).trans rfl⟩
theorem X_Room_needBetween : xhs m_Room_needBetween = [] := rfl
theorem E_Room_hasOtherSpot (hW : ∀ M f h, W M f h = xbody V xF0 xG W M f h) :
    (∀ (x0 : Nat) (x1 x2 : Int32) (h : xH), W m_Room_hasOtherSpot (0, [some (.ref x0), some (.int x1), some (.int x2), none], []) h = W m_Room_hasOtherSpot (2, [some (.ref x0), some (.int x1), some (.int x2), some (.int (Int32.ofInt 4))], []) h) ∧
    (∀ (x0 : Nat) (x1 x2 x3 : Int32) (h : xH), W m_Room_hasOtherSpot (8, [some (.ref x0), some (.int x1), some (.int x2), some (.int x3)], []) h = if x3 = x2 then W m_Room_hasOtherSpot (29, [some (.ref x0), some (.int x1), some (.int x2), some (.int x3)], []) h else W m_Room_hasOtherSpot (13, [some (.ref x0), some (.int x1), some (.int x2), some (.int x3)], []) h) ∧
    (∀ (x0 : Nat) (x1 x2 x3 : Int32) (h : xH), W m_Room_hasOtherSpot (13, [some (.ref x0), some (.int x1), some (.int x2), some (.int x3)], []) h = xpush W m_Room_hasOtherSpot 17 [some (.ref x0), some (.int x1), some (.int x2), some (.int x3)] [] h (xfld 0 0 (h.1 x0))) ∧
    (∀ (x0 y0 : Nat) (x1 x2 x3 : Int32) (h : xH), W m_Room_hasOtherSpot (17, [some (.ref x0), some (.int x1), some (.int x2), some (.int x3)], [(.ref y0)]) h = xpush W m_Room_hasOtherSpot 24 [some (.ref x0), some (.int x1), some (.int x2), some (.int x3)] [] h (xldI (h.1 y0) ((x1 * (Int32.ofInt 8)) + x3))) ∧
    (∀ (x0 : Nat) (x1 x2 x3 y0 : Int32) (h : xH), W m_Room_hasOtherSpot (24, [some (.ref x0), some (.int x1), some (.int x2), some (.int x3)], [(.int y0)]) h = if y0 ≤ (Int32.ofInt 0) then W m_Room_hasOtherSpot (29, [some (.ref x0), some (.int x1), some (.int x2), some (.int x3)], []) h else W m_Room_hasOtherSpot (27, [some (.ref x0), some (.int x1), some (.int x2), some (.int x3)], []) h) ∧
    (∀ (x0 : Nat) (x1 x2 x3 : Int32) (h : xH), W m_Room_hasOtherSpot (27, [some (.ref x0), some (.int x1), some (.int x2), some (.int x3)], []) h = some (.inl (some (.int (Int32.ofInt 1))), h)) ∧
    (∀ (x0 : Nat) (x1 x2 x3 : Int32) (h : xH), W m_Room_hasOtherSpot (29, [some (.ref x0), some (.int x1), some (.int x2), some (.int x3)], []) h = W m_Room_hasOtherSpot (2, [some (.ref x0), some (.int x1), some (.int x2), some (.int (x3 + (Int32.ofInt 1)))], []) h) ∧
    (∀ (x0 : Nat) (x1 x2 x3 : Int32) (h : xH), W m_Room_hasOtherSpot (35, [some (.ref x0), some (.int x1), some (.int x2), some (.int x3)], []) h = some (.inl (some (.int (Int32.ofInt 0))), h)) :=
  ⟨fun _ _ _ _ => (xW_k hW 2 _ _ _).trans rfl,
   fun _ _ _ _ _ => (xW_k hW 3 _ _ _).trans rfl,
   fun _ _ _ _ _ => (xW_k hW 2 _ _ _).trans xq_fld,
   fun _ _ _ _ _ _ => (xW_k hW 6 _ _ _).trans xq_ldI,
   fun _ _ _ _ _ _ => (xW_k hW 1 _ _ _).trans rfl,
   fun _ _ _ _ _ => (xW_k hW 2 _ _ _).trans rfl,
   fun _ _ _ _ _ => (xW_k hW 2 _ _ _).trans rfl,
   fun _ _ _ _ _ => (xW_k hW 2 _ _ _).trans rfl⟩
theorem L_Room_hasOtherSpot_2 (hW : ∀ M f h, W M f h = xbody V xF0 xG W M f h) :
    (∀ (x0 : Nat) (x1 x2 x3 : Int32) (h : xH), W m_Room_hasOtherSpot (2, [some (.ref x0), some (.int x1), some (.int x2), some (.int x3)], []) h = if (Int32.ofInt 8) ≤ x3 then W m_Room_hasOtherSpot (35, [some (.ref x0), some (.int x1), some (.int x2), some (.int x3)], []) h else W m_Room_hasOtherSpot (8, [some (.ref x0), some (.int x1), some (.int x2), some (.int x3)], []) h) :=
  fun _ _ _ _ _ => (xW_k hW 3 _ _ _).trans rfl
theorem X_Room_hasOtherSpot : xhs m_Room_hasOtherSpot = [] := rfl
theorem E_Law_box (hW : ∀ M f h, W M f h = xbody V xF0 xG W M f h) :
    (∀ (x0 x7 : Nat) (x1 x2 x3 x4 x5 x6 : Int32) (h : xH), W m_Law_box (0, [some (.ref x0), some (.int x1), some (.int x2), some (.int x3), some (.int x4), some (.int x5), some (.int x6), some (.ref x7), none], []) h = xret W m_Law_box 13 16 [some (.ref x0), some (.int x1), some (.int x2), some (.int x3), some (.int x4), some (.int x5), some (.int x6), some (.ref x7), none] [(.int (Int32.ofInt 0)), (.ref x7)] (xrc 0 (h.1 x0) (W m_Room_box (0, [some (.ref x0), some (.int x1), some (.int x2), some (.int x3), some (.int x4), some (.int x5), some (.int x6), none, none, none, none], []) h))) ∧
    (∀ (x0 x7 y2 : Nat) (x1 x2 x3 x4 x5 x6 y0 y1 : Int32) (h : xH), W m_Law_box (16, [some (.ref x0), some (.int x1), some (.int x2), some (.int x3), some (.int x4), some (.int x5), some (.int x6), some (.ref x7), none], [(.int y0), (.int y1), (.ref y2)]) h = xthn W m_Law_box 18 [some (.ref x0), some (.int x1), some (.int x2), some (.int x3), some (.int x4), some (.int x5), some (.int x6), some (.ref x7), none] [] (xstL (h.1 y2) h y2 y1 (Int32.toInt64 y0))) ∧
    (∀ (x0 x7 : Nat) (x1 x2 x3 x4 x5 x6 : Int32) (h : xH), W m_Law_box (18, [some (.ref x0), some (.int x1), some (.int x2), some (.int x3), some (.int x4), some (.int x5), some (.int x6), some (.ref x7), none], []) h = some (.inl (some (.int (Int32.ofInt 0))), h)) ∧
    (∀ (x0 x7 y0 : Nat) (x1 x2 x3 x4 x5 x6 : Int32) (h : xH), W m_Law_box (21, [some (.ref x0), some (.int x1), some (.int x2), some (.int x3), some (.int x4), some (.int x5), some (.int x6), some (.ref x7), none], [(.ref y0)]) h = some (.inl (some (.int (Int32.ofInt 1))), h)) ∧
    (∀ (x0 x7 y0 : Nat) (x1 x2 x3 x4 x5 x6 : Int32) (h : xH), W m_Law_box (25, [some (.ref x0), some (.int x1), some (.int x2), some (.int x3), some (.int x4), some (.int x5), some (.int x6), some (.ref x7), none], [(.ref y0)]) h = some (.inl (some (.int (Int32.ofInt 2))), h)) :=
  ⟨fun _ _ _ _ _ _ _ _ _ => (xW_k hW 10 _ _ _).trans xq_rc,
   fun _ _ _ _ _ _ _ _ _ _ _ _ => (xW_k hW 2 _ _ _).trans xq_stL,
   fun _ _ _ _ _ _ _ _ _ => (xW_k hW 3 _ _ _).trans rfl,
   fun _ _ _ _ _ _ _ _ _ _ => (xW_k hW 3 _ _ _).trans rfl,
   fun _ _ _ _ _ _ _ _ _ _ => (xW_k hW 3 _ _ _).trans rfl⟩
theorem E_Room_box (hW : ∀ M f h, W M f h = xbody V xF0 xG W M f h) :
    (∀ (x0 : Nat) (x1 x2 x3 x4 x5 x6 : Int32) (h : xH), W m_Room_box (0, [some (.ref x0), some (.int x1), some (.int x2), some (.int x3), some (.int x4), some (.int x5), some (.int x6), none, none, none, none], []) h = xret W m_Room_box 2 5 [some (.ref x0), some (.int x1), some (.int x2), some (.int x3), some (.int x4), some (.int x5), some (.int x6), none, none, none, none] [] (W m_Room_needIndex (0, [some (.int x1), some (.int (Int32.ofInt 4))], []) h)) ∧
    (∀ (x0 : Nat) (x1 x2 x3 x4 x5 x6 : Int32) (h : xH), W m_Room_box (5, [some (.ref x0), some (.int x1), some (.int x2), some (.int x3), some (.int x4), some (.int x5), some (.int x6), none, none, none, none], []) h = xret W m_Room_box 9 12 [some (.ref x0), some (.int x1), some (.int x2), some (.int x3), some (.int x4), some (.int x5), some (.int x6), none, none, none, none] [] (W m_Room_needIndex (0, [some (.int x6), some (.int (Int32.ofInt 64))], []) h)) ∧
    (∀ (x0 : Nat) (x1 x2 x3 x4 x5 x6 : Int32) (h : xH), W m_Room_box (12, [some (.ref x0), some (.int x1), some (.int x2), some (.int x3), some (.int x4), some (.int x5), some (.int x6), none, none, none, none], []) h = xret W m_Room_box 17 20 [some (.ref x0), some (.int x1), some (.int x2), some (.int x3), some (.int x4), some (.int x5), some (.int x6), none, none, none, none] [] (W m_Room_needSpan (0, [some (.int x2), some (.int x4), some (.int (Int32.ofInt 48))], []) h)) ∧
    (∀ (x0 : Nat) (x1 x2 x3 x4 x5 x6 : Int32) (h : xH), W m_Room_box (20, [some (.ref x0), some (.int x1), some (.int x2), some (.int x3), some (.int x4), some (.int x5), some (.int x6), none, none, none, none], []) h = xret W m_Room_box 25 28 [some (.ref x0), some (.int x1), some (.int x2), some (.int x3), some (.int x4), some (.int x5), some (.int x6), none, none, none, none] [] (W m_Room_needSpan (0, [some (.int x3), some (.int x5), some (.int (Int32.ofInt 64))], []) h)) ∧
    (∀ (x0 : Nat) (x1 x2 x3 x4 x5 x6 : Int32) (h : xH), W m_Room_box (28, [some (.ref x0), some (.int x1), some (.int x2), some (.int x3), some (.int x4), some (.int x5), some (.int x6), none, none, none, none], []) h = xpush W m_Room_box 32 [some (.ref x0), some (.int x1), some (.int x2), some (.int x3), some (.int x4), some (.int x5), some (.int x6), none, none, none, none] [] h (xfld 0 1 (h.1 x0))) ∧
    (∀ (x0 y0 : Nat) (x1 x2 x3 x4 x5 x6 : Int32) (h : xH), W m_Room_box (32, [some (.ref x0), some (.int x1), some (.int x2), some (.int x3), some (.int x4), some (.int x5), some (.int x6), none, none, none, none], [(.ref y0)]) h = xpush W m_Room_box 34 [some (.ref x0), some (.int x1), some (.int x2), some (.int x3), some (.int x4), some (.int x5), some (.int x6), none, none, none, none] [] h (xldR (h.1 y0) x1)) ∧
    (∀ (x0 y0 : Nat) (x1 x2 x3 x4 x5 x6 : Int32) (h : xH), W m_Room_box (34, [some (.ref x0), some (.int x1), some (.int x2), some (.int x3), some (.int x4), some (.int x5), some (.int x6), none, none, none, none], [(.ref y0)]) h = W m_Room_box (42, [some (.ref x0), some (.int x1), some (.int x2), some (.int x3), some (.int x4), some (.int x5), some (.int x6), some (.ref y0), some (.int (Int32.ofInt 0)), some (.int x3), none], []) h) ∧
    (∀ (x0 x7 : Nat) (x1 x2 x3 x4 x5 x6 x8 x9 : Int32) (x10 : Option Value) (h : xH), W m_Room_box (51, [some (.ref x0), some (.int x1), some (.int x2), some (.int x3), some (.int x4), some (.int x5), some (.int x6), some (.ref x7), some (.int x8), some (.int x9), x10], []) h = W m_Room_box (60, [some (.ref x0), some (.int x1), some (.int x2), some (.int x3), some (.int x4), some (.int x5), some (.int x6), some (.ref x7), some (.int x8), some (.int x9), some (.int ((x9 * (Int32.ofInt 48)) + x2))], []) h) ∧
    (∀ (x0 x7 : Nat) (x1 x2 x3 x4 x5 x6 x8 x9 x10 : Int32) (h : xH), W m_Room_box (75, [some (.ref x0), some (.int x1), some (.int x2), some (.int x3), some (.int x4), some (.int x5), some (.int x6), some (.ref x7), some (.int x8), some (.int x9), some (.int x10)], []) h = xpush W m_Room_box 80 [some (.ref x0), some (.int x1), some (.int x2), some (.int x3), some (.int x4), some (.int x5), some (.int x6), some (.ref x7), some (.int x8), some (.int x9), some (.int x10)] [] h (xldI (h.1 x7) x10)) ∧
    (∀ (x0 x7 : Nat) (x1 x2 x3 x4 x5 x6 x8 x9 x10 y0 : Int32) (h : xH), W m_Room_box (80, [some (.ref x0), some (.int x1), some (.int x2), some (.int x3), some (.int x4), some (.int x5), some (.int x6), some (.ref x7), some (.int x8), some (.int x9), some (.int x10)], [(.int y0)]) h = if y0 = x6 then W m_Room_box (95, [some (.ref x0), some (.int x1), some (.int x2), some (.int x3), some (.int x4), some (.int x5), some (.int x6), some (.ref x7), some (.int x8), some (.int x9), some (.int x10)], []) h else W m_Room_box (85, [some (.ref x0), some (.int x1), some (.int x2), some (.int x3), some (.int x4), some (.int x5), some (.int x6), some (.ref x7), some (.int x8), some (.int x9), some (.int x10)], []) h) ∧
    (∀ (x0 x7 : Nat) (x1 x2 x3 x4 x5 x6 x8 x9 x10 : Int32) (h : xH), W m_Room_box (85, [some (.ref x0), some (.int x1), some (.int x2), some (.int x3), some (.int x4), some (.int x5), some (.int x6), some (.ref x7), some (.int x8), some (.int x9), some (.int x10)], []) h = xthn W m_Room_box 92 [some (.ref x0), some (.int x1), some (.int x2), some (.int x3), some (.int x4), some (.int x5), some (.int x6), some (.ref x7), some (.int x8), some (.int x9), some (.int x10)] [] (xstI (h.1 x7) h x7 x10 x6)) ∧
    (∀ (x0 x7 : Nat) (x1 x2 x3 x4 x5 x6 x8 x9 x10 : Int32) (h : xH), W m_Room_box (92, [some (.ref x0), some (.int x1), some (.int x2), some (.int x3), some (.int x4), some (.int x5), some (.int x6), some (.ref x7), some (.int x8), some (.int x9), some (.int x10)], []) h = W m_Room_box (60, [some (.ref x0), some (.int x1), some (.int x2), some (.int x3), some (.int x4), some (.int x5), some (.int x6), some (.ref x7), some (.int (x8 + (Int32.ofInt 1))), some (.int x9), some (.int (x10 + (Int32.ofInt 1)))], []) h) ∧
    (∀ (x0 x7 : Nat) (x1 x2 x3 x4 x5 x6 x8 x9 x10 : Int32) (h : xH), W m_Room_box (95, [some (.ref x0), some (.int x1), some (.int x2), some (.int x3), some (.int x4), some (.int x5), some (.int x6), some (.ref x7), some (.int x8), some (.int x9), some (.int x10)], []) h = W m_Room_box (60, [some (.ref x0), some (.int x1), some (.int x2), some (.int x3), some (.int x4), some (.int x5), some (.int x6), some (.ref x7), some (.int x8), some (.int x9), some (.int (x10 + (Int32.ofInt 1)))], []) h) ∧
    (∀ (x0 x7 : Nat) (x1 x2 x3 x4 x5 x6 x8 x9 x10 : Int32) (h : xH), W m_Room_box (101, [some (.ref x0), some (.int x1), some (.int x2), some (.int x3), some (.int x4), some (.int x5), some (.int x6), some (.ref x7), some (.int x8), some (.int x9), some (.int x10)], []) h = W m_Room_box (42, [some (.ref x0), some (.int x1), some (.int x2), some (.int x3), some (.int x4), some (.int x5), some (.int x6), some (.ref x7), some (.int x8), some (.int (x9 + (Int32.ofInt 1))), some (.int x10)], []) h) ∧
    (∀ (x0 x7 : Nat) (x1 x2 x3 x4 x5 x6 x8 x9 : Int32) (x10 : Option Value) (h : xH), W m_Room_box (107, [some (.ref x0), some (.int x1), some (.int x2), some (.int x3), some (.int x4), some (.int x5), some (.int x6), some (.ref x7), some (.int x8), some (.int x9), x10], []) h = some (.inl (some (.int x8)), h)) :=
  ⟨fun _ _ _ _ _ _ _ _ => (xW_k hW 3 _ _ _).trans rfl,
   fun _ _ _ _ _ _ _ _ => (xW_k hW 3 _ _ _).trans rfl,
   fun _ _ _ _ _ _ _ _ => (xW_k hW 4 _ _ _).trans rfl,
   fun _ _ _ _ _ _ _ _ => (xW_k hW 4 _ _ _).trans rfl,
   fun _ _ _ _ _ _ _ _ => (xW_k hW 2 _ _ _).trans xq_fld,
   fun _ _ _ _ _ _ _ _ _ => (xW_k hW 2 _ _ _).trans xq_ldR,
   fun _ _ _ _ _ _ _ _ _ => (xW_k hW 5 _ _ _).trans rfl,
   fun _ _ _ _ _ _ _ _ _ _ _ _ => (xW_k hW 6 _ _ _).trans rfl,
   fun _ _ _ _ _ _ _ _ _ _ _ _ => (xW_k hW 3 _ _ _).trans xq_ldI,
   fun _ _ _ _ _ _ _ _ _ _ _ _ _ => (xW_k hW 2 _ _ _).trans rfl,
   fun _ _ _ _ _ _ _ _ _ _ _ _ => (xW_k hW 4 _ _ _).trans xq_stI,
   fun _ _ _ _ _ _ _ _ _ _ _ _ => (xW_k hW 3 _ _ _).trans rfl,
   fun _ _ _ _ _ _ _ _ _ _ _ _ => (xW_k hW 2 _ _ _).trans rfl,
   fun _ _ _ _ _ _ _ _ _ _ _ _ => (xW_k hW 2 _ _ _).trans rfl,
   fun _ _ _ _ _ _ _ _ _ _ _ _ => (xW_k hW 2 _ _ _).trans rfl⟩
theorem L_Room_box_42 (hW : ∀ M f h, W M f h = xbody V xF0 xG W M f h) :
    (∀ (x0 x7 : Nat) (x1 x2 x3 x4 x5 x6 x8 x9 : Int32) (x10 : Option Value) (h : xH), W m_Room_box (42, [some (.ref x0), some (.int x1), some (.int x2), some (.int x3), some (.int x4), some (.int x5), some (.int x6), some (.ref x7), some (.int x8), some (.int x9), x10], []) h = if (x3 + x5) ≤ x9 then W m_Room_box (107, [some (.ref x0), some (.int x1), some (.int x2), some (.int x3), some (.int x4), some (.int x5), some (.int x6), some (.ref x7), some (.int x8), some (.int x9), x10], []) h else W m_Room_box (51, [some (.ref x0), some (.int x1), some (.int x2), some (.int x3), some (.int x4), some (.int x5), some (.int x6), some (.ref x7), some (.int x8), some (.int x9), x10], []) h) :=
  fun _ _ _ _ _ _ _ _ _ _ _ _ => (xW_k hW 5 _ _ _).trans rfl
theorem L_Room_box_60 (hW : ∀ M f h, W M f h = xbody V xF0 xG W M f h) :
    (∀ (x0 x7 : Nat) (x1 x2 x3 x4 x5 x6 x8 x9 x10 : Int32) (h : xH), W m_Room_box (60, [some (.ref x0), some (.int x1), some (.int x2), some (.int x3), some (.int x4), some (.int x5), some (.int x6), some (.ref x7), some (.int x8), some (.int x9), some (.int x10)], []) h = if (((x9 * (Int32.ofInt 48)) + x2) + x4) ≤ x10 then W m_Room_box (101, [some (.ref x0), some (.int x1), some (.int x2), some (.int x3), some (.int x4), some (.int x5), some (.int x6), some (.ref x7), some (.int x8), some (.int x9), some (.int x10)], []) h else W m_Room_box (75, [some (.ref x0), some (.int x1), some (.int x2), some (.int x3), some (.int x4), some (.int x5), some (.int x6), some (.ref x7), some (.int x8), some (.int x9), some (.int x10)], []) h) :=
  fun _ _ _ _ _ _ _ _ _ _ _ _ => (xW_k hW 9 _ _ _).trans rfl
theorem X_Room_box : xhs m_Room_box = [] := rfl
theorem E_Room_needSpan (hW : ∀ M f h, W M f h = xbody V xF0 xG W M f h) :
    (∀ (x0 x1 x2 : Int32) (h : xH), W m_Room_needSpan (0, [some (.int x0), some (.int x1), some (.int x2)], []) h = xret W m_Room_needSpan 5 8 [some (.int x0), some (.int x1), some (.int x2)] [] (W m_Room_needBetween (0, [some (.int x0), some (.int (Int32.ofInt 0)), some (.int (x2 - (Int32.ofInt 1)))], []) h)) ∧
    (∀ (x0 x1 x2 : Int32) (h : xH), W m_Room_needSpan (8, [some (.int x0), some (.int x1), some (.int x2)], []) h = xret W m_Room_needSpan 13 16 [some (.int x0), some (.int x1), some (.int x2)] [] (W m_Room_needBetween (0, [some (.int x1), some (.int (Int32.ofInt 1)), some (.int (x2 - x0))], []) h)) ∧
    (∀ (x0 x1 x2 : Int32) (h : xH), W m_Room_needSpan (16, [some (.int x0), some (.int x1), some (.int x2)], []) h = some (.inl none, h)) :=
  ⟨fun _ _ _ _ => (xW_k hW 6 _ _ _).trans rfl,
   fun _ _ _ _ => (xW_k hW 6 _ _ _).trans rfl,
   fun _ _ _ _ => (xW_k hW 1 _ _ _).trans rfl⟩
theorem X_Room_needSpan : xhs m_Room_needSpan = [] := rfl
theorem E_Law_cell (hW : ∀ M f h, W M f h = xbody V xF0 xG W M f h) :
    (∀ (x0 x4 : Nat) (x1 x2 x3 : Int32) (h : xH), W m_Law_cell (0, [some (.ref x0), some (.int x1), some (.int x2), some (.int x3), some (.ref x4), none], []) h = xret W m_Law_cell 7 10 [some (.ref x0), some (.int x1), some (.int x2), some (.int x3), some (.ref x4), none] [(.int (Int32.ofInt 0)), (.ref x4)] (xrc 0 (h.1 x0) (W m_Room_cell (0, [some (.ref x0), some (.int x1), some (.int x2), some (.int x3)], []) h))) ∧
    (∀ (x0 x4 y2 : Nat) (x1 x2 x3 y0 y1 : Int32) (h : xH), W m_Law_cell (10, [some (.ref x0), some (.int x1), some (.int x2), some (.int x3), some (.ref x4), none], [(.int y0), (.int y1), (.ref y2)]) h = xthn W m_Law_cell 12 [some (.ref x0), some (.int x1), some (.int x2), some (.int x3), some (.ref x4), none] [] (xstL (h.1 y2) h y2 y1 (Int32.toInt64 y0))) ∧
    (∀ (x0 x4 : Nat) (x1 x2 x3 : Int32) (h : xH), W m_Law_cell (12, [some (.ref x0), some (.int x1), some (.int x2), some (.int x3), some (.ref x4), none], []) h = some (.inl (some (.int (Int32.ofInt 0))), h)) ∧
    (∀ (x0 x4 y0 : Nat) (x1 x2 x3 : Int32) (h : xH), W m_Law_cell (15, [some (.ref x0), some (.int x1), some (.int x2), some (.int x3), some (.ref x4), none], [(.ref y0)]) h = some (.inl (some (.int (Int32.ofInt 1))), h)) :=
  ⟨fun _ _ _ _ _ _ => (xW_k hW 7 _ _ _).trans xq_rc,
   fun _ _ _ _ _ _ _ _ _ => (xW_k hW 2 _ _ _).trans xq_stL,
   fun _ _ _ _ _ _ => (xW_k hW 3 _ _ _).trans rfl,
   fun _ _ _ _ _ _ _ => (xW_k hW 3 _ _ _).trans rfl⟩
theorem E_Room_cell (hW : ∀ M f h, W M f h = xbody V xF0 xG W M f h) :
    (∀ (x0 : Nat) (x1 x2 x3 : Int32) (h : xH), W m_Room_cell (0, [some (.ref x0), some (.int x1), some (.int x2), some (.int x3)], []) h = xret W m_Room_cell 3 6 [some (.ref x0), some (.int x1), some (.int x2), some (.int x3)] [] (W m_Room_needCell (0, [some (.int x1), some (.int x2), some (.int x3)], []) h)) ∧
    (∀ (x0 : Nat) (x1 x2 x3 : Int32) (h : xH), W m_Room_cell (6, [some (.ref x0), some (.int x1), some (.int x2), some (.int x3)], []) h = xpush W m_Room_cell 10 [some (.ref x0), some (.int x1), some (.int x2), some (.int x3)] [] h (xfld 0 1 (h.1 x0))) ∧
    (∀ (x0 y0 : Nat) (x1 x2 x3 : Int32) (h : xH), W m_Room_cell (10, [some (.ref x0), some (.int x1), some (.int x2), some (.int x3)], [(.ref y0)]) h = xpush W m_Room_cell 12 [some (.ref x0), some (.int x1), some (.int x2), some (.int x3)] [] h (xldR (h.1 y0) x1)) ∧
    (∀ (x0 y0 : Nat) (x1 x2 x3 : Int32) (h : xH), W m_Room_cell (12, [some (.ref x0), some (.int x1), some (.int x2), some (.int x3)], [(.ref y0)]) h = xret W m_Room_cell 14 17 [some (.ref x0), some (.int x1), some (.int x2), some (.int x3)] [(.ref y0)] (W m_Room_cellAt (0, [some (.int x2), some (.int x3)], []) h)) ∧
    (∀ (x0 y1 : Nat) (x1 x2 x3 y0 : Int32) (h : xH), W m_Room_cell (17, [some (.ref x0), some (.int x1), some (.int x2), some (.int x3)], [(.int y0), (.ref y1)]) h = xpush W m_Room_cell 18 [some (.ref x0), some (.int x1), some (.int x2), some (.int x3)] [] h (xldI (h.1 y1) y0)) ∧
    (∀ (x0 : Nat) (x1 x2 x3 y0 : Int32) (h : xH), W m_Room_cell (18, [some (.ref x0), some (.int x1), some (.int x2), some (.int x3)], [(.int y0)]) h = some (.inl (some (.int y0)), h)) :=
  ⟨fun _ _ _ _ _ => (xW_k hW 4 _ _ _).trans rfl,
   fun _ _ _ _ _ => (xW_k hW 2 _ _ _).trans xq_fld,
   fun _ _ _ _ _ _ => (xW_k hW 2 _ _ _).trans xq_ldR,
   fun _ _ _ _ _ _ => (xW_k hW 3 _ _ _).trans rfl,
   fun _ _ _ _ _ _ _ => (xW_k hW 1 _ _ _).trans xq_ldI,
   fun _ _ _ _ _ _ => (xW_k hW 1 _ _ _).trans rfl⟩
theorem X_Room_cell : xhs m_Room_cell = [] := rfl
theorem E_Room_needCell (hW : ∀ M f h, W M f h = xbody V xF0 xG W M f h) :
    (∀ (x0 x1 x2 : Int32) (h : xH), W m_Room_needCell (0, [some (.int x0), some (.int x1), some (.int x2)], []) h = xret W m_Room_needCell 2 5 [some (.int x0), some (.int x1), some (.int x2)] [] (W m_Room_needIndex (0, [some (.int x0), some (.int (Int32.ofInt 4))], []) h)) ∧
    (∀ (x0 x1 x2 : Int32) (h : xH), W m_Room_needCell (5, [some (.int x0), some (.int x1), some (.int x2)], []) h = xret W m_Room_needCell 8 11 [some (.int x0), some (.int x1), some (.int x2)] [] (W m_Room_needIndex (0, [some (.int x1), some (.int (Int32.ofInt 48))], []) h)) ∧
    (∀ (x0 x1 x2 : Int32) (h : xH), W m_Room_needCell (11, [some (.int x0), some (.int x1), some (.int x2)], []) h = xret W m_Room_needCell 14 17 [some (.int x0), some (.int x1), some (.int x2)] [] (W m_Room_needIndex (0, [some (.int x2), some (.int (Int32.ofInt 64))], []) h)) ∧
    (∀ (x0 x1 x2 : Int32) (h : xH), W m_Room_needCell (17, [some (.int x0), some (.int x1), some (.int x2)], []) h = some (.inl none, h)) :=
  ⟨fun _ _ _ _ => (xW_k hW 3 _ _ _).trans rfl,
   fun _ _ _ _ => (xW_k hW 3 _ _ _).trans rfl,
   fun _ _ _ _ => (xW_k hW 3 _ _ _).trans rfl,
   fun _ _ _ _ => (xW_k hW 1 _ _ _).trans rfl⟩
theorem X_Room_needCell : xhs m_Room_needCell = [] := rfl
theorem E_Room_cellAt (hW : ∀ M f h, W M f h = xbody V xF0 xG W M f h) :
    (∀ (x0 x1 : Int32) (h : xH), W m_Room_cellAt (0, [some (.int x0), some (.int x1)], []) h = some (.inl (some (.int ((x1 * (Int32.ofInt 48)) + x0))), h)) :=
  fun _ _ _ => (xW_k hW 6 _ _ _).trans rfl
theorem X_Room_cellAt : xhs m_Room_cellAt = [] := rfl
theorem E_Law_grey (hW : ∀ M f h, W M f h = xbody V xF0 xG W M f h) :
    (∀ (x0 : Nat) (x1 x2 : Int32) (h : xH), W m_Law_grey (0, [some (.ref x0), some (.int x1), some (.int x2), none], []) h = xret W m_Law_grey 3 6 [some (.ref x0), some (.int x1), some (.int x2), none] [] (xrc 0 (h.1 x0) (W m_Room_grey (0, [some (.ref x0), some (.int x1), some (.int x2)], []) h))) ∧
    (∀ (x0 : Nat) (x1 x2 : Int32) (h : xH), W m_Law_grey (6, [some (.ref x0), some (.int x1), some (.int x2), none], []) h = some (.inl (some (.int (Int32.ofInt 0))), h)) ∧
    (∀ (x0 y0 : Nat) (x1 x2 : Int32) (h : xH), W m_Law_grey (9, [some (.ref x0), some (.int x1), some (.int x2), none], [(.ref y0)]) h = some (.inl (some (.int (Int32.ofInt 1))), h)) :=
  ⟨fun _ _ _ _ => (xW_k hW 4 _ _ _).trans xq_rc,
   fun _ _ _ _ => (xW_k hW 3 _ _ _).trans rfl,
   fun _ _ _ _ _ => (xW_k hW 3 _ _ _).trans rfl⟩
theorem E_Room_grey (hW : ∀ M f h, W M f h = xbody V xF0 xG W M f h) :
    (∀ (x0 : Nat) (x1 x2 : Int32) (h : xH), W m_Room_grey (0, [some (.ref x0), some (.int x1), some (.int x2)], []) h = xret W m_Room_grey 4 7 [some (.ref x0), some (.int x1), some (.int x2)] [] (W m_Room_needBetween (0, [some (.int x1), some (.int (Int32.ofInt 0)), some (.int (Int32.ofInt 100))], []) h)) ∧
    (∀ (x0 : Nat) (x1 x2 : Int32) (h : xH), W m_Room_grey (7, [some (.ref x0), some (.int x1), some (.int x2)], []) h = xret W m_Room_grey 14 17 [some (.ref x0), some (.int x1), some (.int x2)] [] (W m_Room_needBetween (0, [some (.int x2), some (.int (Int32.ofInt 200)), some (.int (Int32.ofInt 1020))], []) h)) ∧
    (∀ (x0 : Nat) (x1 x2 : Int32) (h : xH), W m_Room_grey (17, [some (.ref x0), some (.int x1), some (.int x2)], []) h = xthn W m_Room_grey 22 [some (.ref x0), some (.int x1), some (.int x2)] [] (xptf (h.1 x0) h x0 0 6 0 (.int x1))) ∧
    (∀ (x0 : Nat) (x1 x2 : Int32) (h : xH), W m_Room_grey (22, [some (.ref x0), some (.int x1), some (.int x2)], []) h = xthn W m_Room_grey 27 [some (.ref x0), some (.int x1), some (.int x2)] [] (xptf (h.1 x0) h x0 0 7 0 (.int x2))) ∧
    (∀ (x0 : Nat) (x1 x2 : Int32) (h : xH), W m_Room_grey (27, [some (.ref x0), some (.int x1), some (.int x2)], []) h = some (.inl none, h)) :=
  ⟨fun _ _ _ _ => (xW_k hW 4 _ _ _).trans rfl,
   fun _ _ _ _ => (xW_k hW 4 _ _ _).trans rfl,
   fun _ _ _ _ => (xW_k hW 3 _ _ _).trans xq_ptf,
   fun _ _ _ _ => (xW_k hW 3 _ _ _).trans xq_ptf,
   fun _ _ _ _ => (xW_k hW 1 _ _ _).trans rfl⟩
theorem X_Room_grey : xhs m_Room_grey = [] := rfl
theorem E_Law_separate (hW : ∀ M f h, W M f h = xbody V xF0 xG W M f h) :
    (∀ (x0 x2 : Nat) (x1 : Int32) (h : xH), W m_Law_separate (0, [some (.ref x0), some (.int x1), some (.ref x2), none], []) h = xret W m_Law_separate 4 7 [some (.ref x0), some (.int x1), some (.ref x2), none] [(.int (Int32.ofInt 0)), (.ref x2)] (xrc 0 (h.1 x0) (W m_Room_separate (0, [some (.ref x0), some (.int x1)], []) h))) ∧
    (∀ (x0 x2 y2 : Nat) (x1 y0 y1 : Int32) (h : xH), W m_Law_separate (7, [some (.ref x0), some (.int x1), some (.ref x2), none], [(.int y0), (.int y1), (.ref y2)]) h = xthn W m_Law_separate 9 [some (.ref x0), some (.int x1), some (.ref x2), none] [] (xstL (h.1 y2) h y2 y1 (Int32.toInt64 y0))) ∧
    (∀ (x0 x2 : Nat) (x1 : Int32) (h : xH), W m_Law_separate (9, [some (.ref x0), some (.int x1), some (.ref x2), none], []) h = some (.inl (some (.int (Int32.ofInt 0))), h)) ∧
    (∀ (x0 x2 y0 : Nat) (x1 : Int32) (h : xH), W m_Law_separate (12, [some (.ref x0), some (.int x1), some (.ref x2), none], [(.ref y0)]) h = some (.inl (some (.int (Int32.ofInt 1))), h)) :=
  ⟨fun _ _ _ _ => (xW_k hW 5 _ _ _).trans xq_rc,
   fun _ _ _ _ _ _ _ => (xW_k hW 2 _ _ _).trans xq_stL,
   fun _ _ _ _ => (xW_k hW 3 _ _ _).trans rfl,
   fun _ _ _ _ _ => (xW_k hW 3 _ _ _).trans rfl⟩
theorem E_Room_separate (hW : ∀ M f h, W M f h = xbody V xF0 xG W M f h) :
    (∀ (x0 : Nat) (x1 : Int32) (h : xH), W m_Room_separate (0, [some (.ref x0), some (.int x1)], []) h = xret W m_Room_separate 2 5 [some (.ref x0), some (.int x1)] [] (W m_Room_needIndex (0, [some (.int x1), some (.int (Int32.ofInt 4))], []) h)) ∧
    (∀ (x0 : Nat) (x1 : Int32) (h : xH), W m_Room_separate (5, [some (.ref x0), some (.int x1)], []) h = xpush W m_Room_separate 9 [some (.ref x0), some (.int x1)] [] h (xfld 0 2 (h.1 x0))) ∧
    (∀ (x0 y0 : Nat) (x1 : Int32) (h : xH), W m_Room_separate (9, [some (.ref x0), some (.int x1)], [(.ref y0)]) h = xpush W m_Room_separate 11 [some (.ref x0), some (.int x1)] [] h (xldR (h.1 y0) x1)) ∧
    (∀ (x0 y0 : Nat) (x1 : Int32) (h : xH), W m_Room_separate (11, [some (.ref x0), some (.int x1)], [(.ref y0)]) h = xpush W m_Room_separate 15 [some (.ref x0), some (.int x1)] [(.ref y0)] h (xfld 0 1 (h.1 x0))) ∧
    (∀ (x0 y0 y1 : Nat) (x1 : Int32) (h : xH), W m_Room_separate (15, [some (.ref x0), some (.int x1)], [(.ref y0), (.ref y1)]) h = xpush W m_Room_separate 17 [some (.ref x0), some (.int x1)] [(.ref y1)] h (xldR (h.1 y0) x1)) ∧
    (∀ (x0 y0 y1 : Nat) (x1 : Int32) (h : xH), W m_Room_separate (17, [some (.ref x0), some (.int x1)], [(.ref y0), (.ref y1)]) h = xpush W m_Room_separate 21 [some (.ref x0), some (.int x1)] [(.ref y0), (.ref y1)] h (xfld 0 0 (h.1 x0))) ∧
    (∀ (x0 y0 y1 y2 : Nat) (x1 : Int32) (h : xH), W m_Room_separate (21, [some (.ref x0), some (.int x1)], [(.ref y0), (.ref y1), (.ref y2)]) h = xpush W m_Room_separate 25 [some (.ref x0), some (.int x1)] [(.ref y0), (.ref y1), (.ref y2)] h (xfld 0 6 (h.1 x0))) ∧
    (∀ (x0 y1 y2 y3 : Nat) (x1 y0 : Int32) (h : xH), W m_Room_separate (25, [some (.ref x0), some (.int x1)], [(.int y0), (.ref y1), (.ref y2), (.ref y3)]) h = xpush W m_Room_separate 29 [some (.ref x0), some (.int x1)] [(.int y0), (.ref y1), (.ref y2), (.ref y3)] h (xfld 0 7 (h.1 x0))) ∧
    (∀ (x0 y2 y3 y4 : Nat) (x1 y0 y1 : Int32) (h : xH), W m_Room_separate (29, [some (.ref x0), some (.int x1)], [(.int y0), (.int y1), (.ref y2), (.ref y3), (.ref y4)]) h = xret W m_Room_separate 29 32 [some (.ref x0), some (.int x1)] [] (xrc 1 (h.1 y4) (W m_Job_make (0, [some (.ref y4), some (.ref y3), some (.ref y2), some (.int y1), some (.int y0), none], []) h))) ∧
    (∀ (x0 : Nat) (x1 y0 : Int32) (h : xH), W m_Room_separate (32, [some (.ref x0), some (.int x1)], [(.int y0)]) h = some (.inl (some (.int y0)), h)) :=
  ⟨fun _ _ _ => (xW_k hW 3 _ _ _).trans rfl,
   fun _ _ _ => (xW_k hW 2 _ _ _).trans xq_fld,
   fun _ _ _ _ => (xW_k hW 2 _ _ _).trans xq_ldR,
   fun _ _ _ _ => (xW_k hW 2 _ _ _).trans xq_fld,
   fun _ _ _ _ _ => (xW_k hW 2 _ _ _).trans xq_ldR,
   fun _ _ _ _ _ => (xW_k hW 2 _ _ _).trans xq_fld,
   fun _ _ _ _ _ _ => (xW_k hW 2 _ _ _).trans xq_fld,
   fun _ _ _ _ _ _ _ => (xW_k hW 2 _ _ _).trans xq_fld,
   fun _ _ _ _ _ _ _ _ => (xW_k hW 1 _ _ _).trans xq_rc,
   fun _ _ _ _ => (xW_k hW 1 _ _ _).trans rfl⟩
theorem X_Room_separate : xhs m_Room_separate = [] := rfl
theorem E_Job_make (hW : ∀ M f h, W M f h = xbody V xF0 xG W M f h) :
    (∀ (x0 x1 x2 : Nat) (x3 x4 : Int32) (h : xH), W m_Job_make (0, [some (.ref x0), some (.ref x1), some (.ref x2), some (.int x3), some (.int x4), none], []) h = xpush W m_Job_make 6 [some (.ref x0), some (.ref x1), some (.ref x2), some (.int x3), some (.int x4), none] [(.int (Int32.ofInt 0)), (.ref x1)] h (xfld 1 0 (h.1 x0))) ∧
    (∀ (x0 x1 x2 y0 y2 : Nat) (x3 x4 y1 : Int32) (h : xH), W m_Job_make (6, [some (.ref x0), some (.ref x1), some (.ref x2), some (.int x3), some (.int x4), none], [(.ref y0), (.int y1), (.ref y2)]) h = xthn W m_Job_make 13 [some (.ref x0), some (.ref x1), some (.ref x2), some (.int x3), some (.int x4), none] [] (xcp (h.1 y2) (h.1 y0) h y1 y0 (Int32.ofInt 0) (Int32.ofInt 3072))) ∧
    (∀ (x0 x1 x2 : Nat) (x3 x4 : Int32) (h : xH), W m_Job_make (13, [some (.ref x0), some (.ref x1), some (.ref x2), some (.int x3), some (.int x4), none], []) h = xpush W m_Job_make 19 [some (.ref x0), some (.ref x1), some (.ref x2), some (.int x3), some (.int x4), none] [(.int (Int32.ofInt 0)), (.ref x2)] h (xfld 1 2 (h.1 x0))) ∧
    (∀ (x0 x1 x2 y0 y2 : Nat) (x3 x4 y1 : Int32) (h : xH), W m_Job_make (19, [some (.ref x0), some (.ref x1), some (.ref x2), some (.int x3), some (.int x4), none], [(.ref y0), (.int y1), (.ref y2)]) h = xpush W m_Job_make 24 [some (.ref x0), some (.ref x1), some (.ref x2), some (.int x3), some (.int x4), none] [(.int (Int32.ofInt 0)), (.ref y0), (.int y1), (.ref y2)] h (xfld 1 2 (h.1 x0))) ∧
    (∀ (x0 x1 x2 y0 y2 y4 : Nat) (x3 x4 y1 y3 : Int32) (h : xH), W m_Job_make (24, [some (.ref x0), some (.ref x1), some (.ref x2), some (.int x3), some (.int x4), none], [(.ref y0), (.int y1), (.ref y2), (.int y3), (.ref y4)]) h = xpush W m_Job_make 25 [some (.ref x0), some (.ref x1), some (.ref x2), some (.int x3), some (.int x4), none] [(.int y1), (.ref y2), (.int y3), (.ref y4)] h (xaln (h.1 y0))) ∧
    (∀ (x0 x1 x2 y2 y4 : Nat) (x3 x4 y0 y1 y3 : Int32) (h : xH), W m_Job_make (25, [some (.ref x0), some (.ref x1), some (.ref x2), some (.int x3), some (.int x4), none], [(.int y0), (.int y1), (.ref y2), (.int y3), (.ref y4)]) h = xthn W m_Job_make 28 [some (.ref x0), some (.ref x1), some (.ref x2), some (.int x3), some (.int x4), none] [] (xcp (h.1 y4) (h.1 y2) h y3 y2 y1 y0)) ∧
    (∀ (x0 x1 x2 : Nat) (x3 x4 : Int32) (h : xH), W m_Job_make (28, [some (.ref x0), some (.ref x1), some (.ref x2), some (.int x3), some (.int x4), none], []) h = xpush W m_Job_make 32 [some (.ref x0), some (.ref x1), some (.ref x2), some (.int x3), some (.int x4), none] [] h (xfld 1 1 (h.1 x0))) ∧
    (∀ (x0 x1 x2 y0 : Nat) (x3 x4 : Int32) (h : xH), W m_Job_make (32, [some (.ref x0), some (.ref x1), some (.ref x2), some (.int x3), some (.int x4), none], [(.ref y0)]) h = xret W m_Job_make 33 36 [some (.ref x0), some (.ref x1), some (.ref x2), some (.int x3), some (.int x4), none] [] (W m_Arrays_fill (0, [some (.ref y0), some (.int (Int32.ofInt (-1))), none, none], []) h)) ∧
    (∀ (x0 x1 x2 : Nat) (x3 x4 : Int32) (h : xH), W m_Job_make (36, [some (.ref x0), some (.ref x1), some (.ref x2), some (.int x3), some (.int x4), none], []) h = W m_Job_make (39, [some (.ref x0), some (.ref x1), some (.ref x2), some (.int x3), some (.int x4), some (.int (Int32.ofInt 0))], []) h) ∧
    (∀ (x0 x1 x2 : Nat) (x3 x4 x5 : Int32) (h : xH), W m_Job_make (46, [some (.ref x0), some (.ref x1), some (.ref x2), some (.int x3), some (.int x4), some (.int x5)], []) h = xret W m_Job_make 53 56 [some (.ref x0), some (.ref x1), some (.ref x2), some (.int x3), some (.int x4), some (.int x5)] [] (xrc 1 (h.1 x0) (W m_Job_moveToBlack (0, [some (.ref x0), some (.int (x5 * (Int32.ofInt 8))), some (.int x3), none, none, none], []) h))) ∧
    (∀ (x0 x1 x2 : Nat) (x3 x4 x5 : Int32) (h : xH), W m_Job_make (56, [some (.ref x0), some (.ref x1), some (.ref x2), some (.int x3), some (.int x4), some (.int x5)], []) h = xret W m_Job_make 64 67 [some (.ref x0), some (.ref x1), some (.ref x2), some (.int x3), some (.int x4), some (.int x5)] [] (xrc 1 (h.1 x0) (W m_Job_keepLimit (0, [some (.ref x0), some (.int (x5 * (Int32.ofInt 8))), some (.int x4), none, none, none, none], []) h))) ∧
    (∀ (x0 x1 x2 : Nat) (x3 x4 x5 : Int32) (h : xH), W m_Job_make (67, [some (.ref x0), some (.ref x1), some (.ref x2), some (.int x3), some (.int x4), some (.int x5)], []) h = W m_Job_make (39, [some (.ref x0), some (.ref x1), some (.ref x2), some (.int x3), some (.int x4), some (.int (x5 + (Int32.ofInt 1)))], []) h) ∧
    (∀ (x0 x1 x2 : Nat) (x3 x4 x5 : Int32) (h : xH), W m_Job_make (73, [some (.ref x0), some (.ref x1), some (.ref x2), some (.int x3), some (.int x4), some (.int x5)], []) h = xthn W m_Job_make 78 [some (.ref x0), some (.ref x1), some (.ref x2), some (.int x3), some (.int x4), some (.int x5)] [] (xptf (h.1 x0) h x0 1 3 1 (.int (Int32.ofInt 1)))) ∧
    (∀ (x0 x1 x2 : Nat) (x3 x4 x5 : Int32) (h : xH), W m_Job_make (78, [some (.ref x0), some (.ref x1), some (.ref x2), some (.int x3), some (.int x4), some (.int x5)], []) h = xthn W m_Job_make 83 [some (.ref x0), some (.ref x1), some (.ref x2), some (.int x3), some (.int x4), some (.int x5)] [] (xptf (h.1 x0) h x0 1 4 1 (.int (Int32.ofInt 0)))) ∧
    (∀ (x0 x1 x2 : Nat) (x3 x4 x5 : Int32) (h : xH), W m_Job_make (83, [some (.ref x0), some (.ref x1), some (.ref x2), some (.int x3), some (.int x4), some (.int x5)], []) h = xret W m_Job_make 84 87 [some (.ref x0), some (.ref x1), some (.ref x2), some (.int x3), some (.int x4), some (.int x5)] [] (xrc 1 (h.1 x0) (W m_Job_countColours (0, [some (.ref x0), none, none, none], []) h))) ∧
    (∀ (x0 x1 x2 : Nat) (x3 x4 x5 y0 : Int32) (h : xH), W m_Job_make (87, [some (.ref x0), some (.ref x1), some (.ref x2), some (.int x3), some (.int x4), some (.int x5)], [(.int y0)]) h = some (.inl (some (.int y0)), h)) :=
  ⟨fun _ _ _ _ _ _ => (xW_k hW 4 _ _ _).trans xq_fld,
   fun _ _ _ _ _ _ _ _ _ => (xW_k hW 3 _ _ _).trans xq_cp,
   fun _ _ _ _ _ _ => (xW_k hW 4 _ _ _).trans xq_fld,
   fun _ _ _ _ _ _ _ _ _ => (xW_k hW 3 _ _ _).trans xq_fld,
   fun _ _ _ _ _ _ _ _ _ _ _ => (xW_k hW 1 _ _ _).trans xq_aln,
   fun _ _ _ _ _ _ _ _ _ _ _ => (xW_k hW 1 _ _ _).trans xq_cp,
   fun _ _ _ _ _ _ => (xW_k hW 2 _ _ _).trans xq_fld,
   fun _ _ _ _ _ _ _ => (xW_k hW 2 _ _ _).trans rfl,
   fun _ _ _ _ _ _ => (xW_k hW 2 _ _ _).trans rfl,
   fun _ _ _ _ _ _ _ => (xW_k hW 6 _ _ _).trans xq_rc,
   fun _ _ _ _ _ _ _ => (xW_k hW 6 _ _ _).trans xq_rc,
   fun _ _ _ _ _ _ _ => (xW_k hW 2 _ _ _).trans rfl,
   fun _ _ _ _ _ _ _ => (xW_k hW 3 _ _ _).trans xq_ptf,
   fun _ _ _ _ _ _ _ => (xW_k hW 3 _ _ _).trans xq_ptf,
   fun _ _ _ _ _ _ _ => (xW_k hW 2 _ _ _).trans xq_rc,
   fun _ _ _ _ _ _ _ _ => (xW_k hW 1 _ _ _).trans rfl⟩
theorem L_Job_make_39 (hW : ∀ M f h, W M f h = xbody V xF0 xG W M f h) :
    (∀ (x0 x1 x2 : Nat) (x3 x4 x5 : Int32) (h : xH), W m_Job_make (39, [some (.ref x0), some (.ref x1), some (.ref x2), some (.int x3), some (.int x4), some (.int x5)], []) h = if (Int32.ofInt 64) ≤ x5 then W m_Job_make (73, [some (.ref x0), some (.ref x1), some (.ref x2), some (.int x3), some (.int x4), some (.int x5)], []) h else W m_Job_make (46, [some (.ref x0), some (.ref x1), some (.ref x2), some (.int x3), some (.int x4), some (.int x5)], []) h) :=
  fun _ _ _ _ _ _ _ => (xW_k hW 3 _ _ _).trans rfl
theorem X_Job_make : xhs m_Job_make = [] := rfl
theorem E_Job_moveToBlack (hW : ∀ M f h, W M f h = xbody V xF0 xG W M f h) :
    (∀ (x0 : Nat) (x1 x2 : Int32) (h : xH), W m_Job_moveToBlack (0, [some (.ref x0), some (.int x1), some (.int x2), none, none, none], []) h = xpush W m_Job_moveToBlack 4 [some (.ref x0), some (.int x1), some (.int x2), none, none, none] [] h (xfld 1 2 (h.1 x0))) ∧
    (∀ (x0 y0 : Nat) (x1 x2 : Int32) (h : xH), W m_Job_moveToBlack (4, [some (.ref x0), some (.int x1), some (.int x2), none, none, none], [(.ref y0)]) h = xpush W m_Job_moveToBlack 6 [some (.ref x0), some (.int x1), some (.int x2), none, none, none] [] h (xldI (h.1 y0) x1)) ∧
    (∀ (x0 : Nat) (x1 x2 y0 : Int32) (h : xH), W m_Job_moveToBlack (6, [some (.ref x0), some (.int x1), some (.int x2), none, none, none], [(.int y0)]) h = xpush W m_Job_moveToBlack 10 [some (.ref x0), some (.int x1), some (.int x2), none, none, none] [(.int y0)] h (xfld 1 2 (h.1 x0))) ∧
    (∀ (x0 y0 : Nat) (x1 x2 y1 : Int32) (h : xH), W m_Job_moveToBlack (10, [some (.ref x0), some (.int x1), some (.int x2), none, none, none], [(.ref y0), (.int y1)]) h = xpush W m_Job_moveToBlack 14 [some (.ref x0), some (.int x1), some (.int x2), none, none, none] [(.int y1)] h (xldI (h.1 y0) (x1 + (Int32.ofInt 1)))) ∧
    (∀ (x0 : Nat) (x1 x2 y0 y1 : Int32) (h : xH), W m_Job_moveToBlack (14, [some (.ref x0), some (.int x1), some (.int x2), none, none, none], [(.int y0), (.int y1)]) h = xpush W m_Job_moveToBlack 18 [some (.ref x0), some (.int x1), some (.int x2), none, none, none] [(.int y0), (.int y1)] h (xfld 1 2 (h.1 x0))) ∧
    (∀ (x0 y0 : Nat) (x1 x2 y1 y2 : Int32) (h : xH), W m_Job_moveToBlack (18, [some (.ref x0), some (.int x1), some (.int x2), none, none, none], [(.ref y0), (.int y1), (.int y2)]) h = xpush W m_Job_moveToBlack 22 [some (.ref x0), some (.int x1), some (.int x2), none, none, none] [(.int y1), (.int y2)] h (xldI (h.1 y0) (x1 + (Int32.ofInt 2)))) ∧
    (∀ (x0 : Nat) (x1 x2 y0 y1 y2 : Int32) (h : xH), W m_Job_moveToBlack (22, [some (.ref x0), some (.int x1), some (.int x2), none, none, none], [(.int y0), (.int y1), (.int y2)]) h = xret W m_Job_moveToBlack 22 25 [some (.ref x0), some (.int x1), some (.int x2), none, none, none] [(.int y2)] (W m_Math_min (0, [some (.int y1), some (.int y0)], []) h)) ∧
    (∀ (x0 : Nat) (x1 x2 y0 y1 : Int32) (h : xH), W m_Job_moveToBlack (25, [some (.ref x0), some (.int x1), some (.int x2), none, none, none], [(.int y0), (.int y1)]) h = xret W m_Job_moveToBlack 25 28 [some (.ref x0), some (.int x1), some (.int x2), none, none, none] [] (W m_Math_min (0, [some (.int y1), some (.int y0)], []) h)) ∧
    (∀ (x0 : Nat) (x1 x2 y0 : Int32) (h : xH), W m_Job_moveToBlack (28, [some (.ref x0), some (.int x1), some (.int x2), none, none, none], [(.int y0)]) h = xpush W m_Job_moveToBlack 42 [some (.ref x0), some (.int x1), some (.int x2), some (.int y0), none, none] [(.int (Int32.ofInt 255)), (.int ((y0 * x2) / (Int32.ofInt 100)))] h (xfld 1 2 (h.1 x0))) ∧
    (∀ (x0 y0 : Nat) (x1 x2 x3 y1 y2 : Int32) (h : xH), W m_Job_moveToBlack (42, [some (.ref x0), some (.int x1), some (.int x2), some (.int x3), none, none], [(.ref y0), (.int y1), (.int y2)]) h = xpush W m_Job_moveToBlack 46 [some (.ref x0), some (.int x1), some (.int x2), some (.int x3), none, none] [(.int y1), (.int y2)] h (xldI (h.1 y0) (x1 + (Int32.ofInt 3)))) ∧
    (∀ (x0 : Nat) (x1 x2 x3 y0 y1 y2 : Int32) (h : xH), W m_Job_moveToBlack (46, [some (.ref x0), some (.int x1), some (.int x2), some (.int x3), none, none], [(.int y0), (.int y1), (.int y2)]) h = xret W m_Job_moveToBlack 47 50 [some (.ref x0), some (.int x1), some (.int x2), some (.int x3), none, none] [] (W m_Math_min (0, [some (.int y2), some (.int (y1 - y0))], []) h)) ∧
    (∀ (x0 : Nat) (x1 x2 x3 y0 : Int32) (h : xH), W m_Job_moveToBlack (50, [some (.ref x0), some (.int x1), some (.int x2), some (.int x3), none, none], [(.int y0)]) h = W m_Job_moveToBlack (55, [some (.ref x0), some (.int x1), some (.int x2), some (.int x3), some (.int y0), some (.int (Int32.ofInt 0))], []) h) ∧
    (∀ (x0 : Nat) (x1 x2 x3 x4 x5 : Int32) (h : xH), W m_Job_moveToBlack (61, [some (.ref x0), some (.int x1), some (.int x2), some (.int x3), some (.int x4), some (.int x5)], []) h = xpush W m_Job_moveToBlack 65 [some (.ref x0), some (.int x1), some (.int x2), some (.int x3), some (.int x4), some (.int x5)] [] h (xfld 1 2 (h.1 x0))) ∧
    (∀ (x0 y0 : Nat) (x1 x2 x3 x4 x5 : Int32) (h : xH), W m_Job_moveToBlack (65, [some (.ref x0), some (.int x1), some (.int x2), some (.int x3), some (.int x4), some (.int x5)], [(.ref y0)]) h = xpush W m_Job_moveToBlack 71 [some (.ref x0), some (.int x1), some (.int x2), some (.int x3), some (.int x4), some (.int x5)] [(.int (x1 + x5)), (.ref y0)] h (xldI (h.1 y0) (x1 + x5))) ∧
    (∀ (x0 y2 : Nat) (x1 x2 x3 x4 x5 y0 y1 : Int32) (h : xH), W m_Job_moveToBlack (71, [some (.ref x0), some (.int x1), some (.int x2), some (.int x3), some (.int x4), some (.int x5)], [(.int y0), (.int y1), (.ref y2)]) h = xthn W m_Job_moveToBlack 75 [some (.ref x0), some (.int x1), some (.int x2), some (.int x3), some (.int x4), some (.int x5)] [] (xstI (h.1 y2) h y2 y1 (y0 - x4))) ∧
    (∀ (x0 : Nat) (x1 x2 x3 x4 x5 : Int32) (h : xH), W m_Job_moveToBlack (75, [some (.ref x0), some (.int x1), some (.int x2), some (.int x3), some (.int x4), some (.int x5)], []) h = W m_Job_moveToBlack (55, [some (.ref x0), some (.int x1), some (.int x2), some (.int x3), some (.int x4), some (.int (x5 + (Int32.ofInt 1)))], []) h) ∧
    (∀ (x0 : Nat) (x1 x2 x3 x4 x5 : Int32) (h : xH), W m_Job_moveToBlack (81, [some (.ref x0), some (.int x1), some (.int x2), some (.int x3), some (.int x4), some (.int x5)], []) h = xpush W m_Job_moveToBlack 85 [some (.ref x0), some (.int x1), some (.int x2), some (.int x3), some (.int x4), some (.int x5)] [] h (xfld 1 2 (h.1 x0))) ∧
    (∀ (x0 y0 : Nat) (x1 x2 x3 x4 x5 : Int32) (h : xH), W m_Job_moveToBlack (85, [some (.ref x0), some (.int x1), some (.int x2), some (.int x3), some (.int x4), some (.int x5)], [(.ref y0)]) h = xpush W m_Job_moveToBlack 90 [some (.ref x0), some (.int x1), some (.int x2), some (.int x3), some (.int x4), some (.int x5)] [(.int (x1 + (Int32.ofInt 3))), (.ref y0)] h (xldI (h.1 y0) (x1 + (Int32.ofInt 3)))) ∧
    (∀ (x0 y2 : Nat) (x1 x2 x3 x4 x5 y0 y1 : Int32) (h : xH), W m_Job_moveToBlack (90, [some (.ref x0), some (.int x1), some (.int x2), some (.int x3), some (.int x4), some (.int x5)], [(.int y0), (.int y1), (.ref y2)]) h = xthn W m_Job_moveToBlack 94 [some (.ref x0), some (.int x1), some (.int x2), some (.int x3), some (.int x4), some (.int x5)] [] (xstI (h.1 y2) h y2 y1 (y0 + x4))) ∧
    (∀ (x0 : Nat) (x1 x2 x3 x4 x5 : Int32) (h : xH), W m_Job_moveToBlack (94, [some (.ref x0), some (.int x1), some (.int x2), some (.int x3), some (.int x4), some (.int x5)], []) h = some (.inl none, h)) :=
  ⟨fun _ _ _ _ => (xW_k hW 2 _ _ _).trans xq_fld,
   fun _ _ _ _ _ => (xW_k hW 2 _ _ _).trans xq_ldI,
   fun _ _ _ _ _ => (xW_k hW 2 _ _ _).trans xq_fld,
   fun _ _ _ _ _ _ => (xW_k hW 4 _ _ _).trans xq_ldI,
   fun _ _ _ _ _ _ => (xW_k hW 2 _ _ _).trans xq_fld,
   fun _ _ _ _ _ _ _ => (xW_k hW 4 _ _ _).trans xq_ldI,
   fun _ _ _ _ _ _ _ => (xW_k hW 1 _ _ _).trans rfl,
   fun _ _ _ _ _ _ => (xW_k hW 1 _ _ _).trans rfl,
   fun _ _ _ _ _ => (xW_k hW 9 _ _ _).trans xq_fld,
   fun _ _ _ _ _ _ _ _ => (xW_k hW 4 _ _ _).trans xq_ldI,
   fun _ _ _ _ _ _ _ _ => (xW_k hW 2 _ _ _).trans rfl,
   fun _ _ _ _ _ _ => (xW_k hW 3 _ _ _).trans rfl,
   fun _ _ _ _ _ _ _ => (xW_k hW 2 _ _ _).trans xq_fld,
   fun _ _ _ _ _ _ _ _ => (xW_k hW 5 _ _ _).trans xq_ldI,
   fun _ _ _ _ _ _ _ _ _ _ => (xW_k hW 3 _ _ _).trans xq_stI,
   fun _ _ _ _ _ _ _ => (xW_k hW 2 _ _ _).trans rfl,
   fun _ _ _ _ _ _ _ => (xW_k hW 2 _ _ _).trans xq_fld,
   fun _ _ _ _ _ _ _ _ => (xW_k hW 5 _ _ _).trans xq_ldI,
   fun _ _ _ _ _ _ _ _ _ _ => (xW_k hW 3 _ _ _).trans xq_stI,
   fun _ _ _ _ _ _ _ => (xW_k hW 1 _ _ _).trans rfl⟩
theorem L_Job_moveToBlack_55 (hW : ∀ M f h, W M f h = xbody V xF0 xG W M f h) :
    (∀ (x0 : Nat) (x1 x2 x3 x4 x5 : Int32) (h : xH), W m_Job_moveToBlack (55, [some (.ref x0), some (.int x1), some (.int x2), some (.int x3), some (.int x4), some (.int x5)], []) h = if (Int32.ofInt 3) ≤ x5 then W m_Job_moveToBlack (81, [some (.ref x0), some (.int x1), some (.int x2), some (.int x3), some (.int x4), some (.int x5)], []) h else W m_Job_moveToBlack (61, [some (.ref x0), some (.int x1), some (.int x2), some (.int x3), some (.int x4), some (.int x5)], []) h) :=
  fun _ _ _ _ _ _ _ => (xW_k hW 3 _ _ _).trans rfl
theorem X_Job_moveToBlack : xhs m_Job_moveToBlack = [] := rfl
theorem E_Math_min (hW : ∀ M f h, W M f h = xbody V xF0 xG W M f h) :
    (∀ (x0 x1 : Int32) (h : xH), W m_Math_min (0, [some (.int x0), some (.int x1)], []) h = if x1 < x0 then W m_Math_min (9, [some (.int x0), some (.int x1)], []) h else W m_Math_min (5, [some (.int x0), some (.int x1)], []) h) ∧
    (∀ (x0 x1 : Int32) (h : xH), W m_Math_min (5, [some (.int x0), some (.int x1)], []) h = some (.inl (some (.int x0)), h)) ∧
    (∀ (x0 x1 : Int32) (h : xH), W m_Math_min (9, [some (.int x0), some (.int x1)], []) h = some (.inl (some (.int x1)), h)) :=
  ⟨fun _ _ _ => (xW_k hW 3 _ _ _).trans rfl,
   fun _ _ _ => (xW_k hW 3 _ _ _).trans rfl,
   fun _ _ _ => (xW_k hW 2 _ _ _).trans rfl⟩
theorem X_Math_min : xhs m_Math_min = [] := rfl
theorem E_Job_keepLimit (hW : ∀ M f h, W M f h = xbody V xF0 xG W M f h) :
    (∀ (x0 : Nat) (x1 x2 : Int32) (h : xH), W m_Job_keepLimit (0, [some (.ref x0), some (.int x1), some (.int x2), none, none, none, none], []) h = xpush W m_Job_keepLimit 4 [some (.ref x0), some (.int x1), some (.int x2), none, none, none, none] [] h (xfld 1 2 (h.1 x0))) ∧
    (∀ (x0 y0 : Nat) (x1 x2 : Int32) (h : xH), W m_Job_keepLimit (4, [some (.ref x0), some (.int x1), some (.int x2), none, none, none, none], [(.ref y0)]) h = xpush W m_Job_keepLimit 8 [some (.ref x0), some (.int x1), some (.int x2), none, none, none, none] [] h (xldI (h.1 y0) (x1 + (Int32.ofInt 3)))) ∧
    (∀ (x0 : Nat) (x1 x2 y0 : Int32) (h : xH), W m_Job_keepLimit (8, [some (.ref x0), some (.int x1), some (.int x2), none, none, none, none], [(.int y0)]) h = xpush W m_Job_keepLimit 13 [some (.ref x0), some (.int x1), some (.int x2), some (.int y0), none, none, none] [] h (xfld 1 2 (h.1 x0))) ∧
    (∀ (x0 y0 : Nat) (x1 x2 x3 : Int32) (h : xH), W m_Job_keepLimit (13, [some (.ref x0), some (.int x1), some (.int x2), some (.int x3), none, none, none], [(.ref y0)]) h = xpush W m_Job_keepLimit 15 [some (.ref x0), some (.int x1), some (.int x2), some (.int x3), none, none, none] [] h (xldI (h.1 y0) x1)) ∧
    (∀ (x0 : Nat) (x1 x2 x3 y0 : Int32) (h : xH), W m_Job_keepLimit (15, [some (.ref x0), some (.int x1), some (.int x2), some (.int x3), none, none, none], [(.int y0)]) h = xpush W m_Job_keepLimit 19 [some (.ref x0), some (.int x1), some (.int x2), some (.int x3), none, none, none] [(.int y0)] h (xfld 1 2 (h.1 x0))) ∧
    (∀ (x0 y0 : Nat) (x1 x2 x3 y1 : Int32) (h : xH), W m_Job_keepLimit (19, [some (.ref x0), some (.int x1), some (.int x2), some (.int x3), none, none, none], [(.ref y0), (.int y1)]) h = xpush W m_Job_keepLimit 23 [some (.ref x0), some (.int x1), some (.int x2), some (.int x3), none, none, none] [(.int y1)] h (xldI (h.1 y0) (x1 + (Int32.ofInt 1)))) ∧
    (∀ (x0 : Nat) (x1 x2 x3 y0 y1 : Int32) (h : xH), W m_Job_keepLimit (23, [some (.ref x0), some (.int x1), some (.int x2), some (.int x3), none, none, none], [(.int y0), (.int y1)]) h = xpush W m_Job_keepLimit 28 [some (.ref x0), some (.int x1), some (.int x2), some (.int x3), none, none, none] [(.int (y1 + y0))] h (xfld 1 2 (h.1 x0))) ∧
    (∀ (x0 y0 : Nat) (x1 x2 x3 y1 : Int32) (h : xH), W m_Job_keepLimit (28, [some (.ref x0), some (.int x1), some (.int x2), some (.int x3), none, none, none], [(.ref y0), (.int y1)]) h = xpush W m_Job_keepLimit 32 [some (.ref x0), some (.int x1), some (.int x2), some (.int x3), none, none, none] [(.int y1)] h (xldI (h.1 y0) (x1 + (Int32.ofInt 2)))) ∧
    (∀ (x0 : Nat) (x1 x2 x3 y0 y1 : Int32) (h : xH), W m_Job_keepLimit (32, [some (.ref x0), some (.int x1), some (.int x2), some (.int x3), none, none, none], [(.int y0), (.int y1)]) h = if (y1 + y0) = (Int32.ofInt 0) then W m_Job_keepLimit (48, [some (.ref x0), some (.int x1), some (.int x2), some (.int x3), some (.int (y1 + y0)), none, none], []) h else W m_Job_keepLimit (40, [some (.ref x0), some (.int x1), some (.int x2), some (.int x3), some (.int (y1 + y0)), none, none], []) h) ∧
    (∀ (x0 : Nat) (x1 x2 x3 x4 : Int32) (h : xH), W m_Job_keepLimit (40, [some (.ref x0), some (.int x1), some (.int x2), some (.int x3), some (.int x4), none, none], []) h = if x2 < (x4 + x3) then W m_Job_keepLimit (49, [some (.ref x0), some (.int x1), some (.int x2), some (.int x3), some (.int x4), none, none], []) h else W m_Job_keepLimit (48, [some (.ref x0), some (.int x1), some (.int x2), some (.int x3), some (.int x4), none, none], []) h) ∧
    (∀ (x0 : Nat) (x1 x2 x3 x4 : Int32) (h : xH), W m_Job_keepLimit (48, [some (.ref x0), some (.int x1), some (.int x2), some (.int x3), some (.int x4), none, none], []) h = some (.inl none, h)) ∧
    (∀ (x0 : Nat) (x1 x2 x3 x4 : Int32) (h : xH), W m_Job_keepLimit (49, [some (.ref x0), some (.int x1), some (.int x2), some (.int x3), some (.int x4), none, none], []) h = xret W m_Job_keepLimit 53 56 [some (.ref x0), some (.int x1), some (.int x2), some (.int x3), some (.int x4), none, none] [] (W m_Math_max (0, [some (.int (x2 - x3)), some (.int (Int32.ofInt 0))], []) h)) ∧
    (∀ (x0 : Nat) (x1 x2 x3 x4 y0 : Int32) (h : xH), W m_Job_keepLimit (56, [some (.ref x0), some (.int x1), some (.int x2), some (.int x3), some (.int x4), none, none], [(.int y0)]) h = W m_Job_keepLimit (61, [some (.ref x0), some (.int x1), some (.int x2), some (.int x3), some (.int x4), some (.int y0), some (.int (Int32.ofInt 0))], []) h) ∧
    (∀ (x0 : Nat) (x1 x2 x3 x4 x5 x6 : Int32) (h : xH), W m_Job_keepLimit (67, [some (.ref x0), some (.int x1), some (.int x2), some (.int x3), some (.int x4), some (.int x5), some (.int x6)], []) h = xpush W m_Job_keepLimit 71 [some (.ref x0), some (.int x1), some (.int x2), some (.int x3), some (.int x4), some (.int x5), some (.int x6)] [] h (xfld 1 2 (h.1 x0))) ∧
    (∀ (x0 y0 : Nat) (x1 x2 x3 x4 x5 x6 : Int32) (h : xH), W m_Job_keepLimit (71, [some (.ref x0), some (.int x1), some (.int x2), some (.int x3), some (.int x4), some (.int x5), some (.int x6)], [(.ref y0)]) h = xpush W m_Job_keepLimit 79 [some (.ref x0), some (.int x1), some (.int x2), some (.int x3), some (.int x4), some (.int x5), some (.int x6)] [(.int (x1 + x6)), (.ref y0)] h (xfld 1 2 (h.1 x0))) ∧
    (∀ (x0 y0 y2 : Nat) (x1 x2 x3 x4 x5 x6 y1 : Int32) (h : xH), W m_Job_keepLimit (79, [some (.ref x0), some (.int x1), some (.int x2), some (.int x3), some (.int x4), some (.int x5), some (.int x6)], [(.ref y0), (.int y1), (.ref y2)]) h = xpush W m_Job_keepLimit 84 [some (.ref x0), some (.int x1), some (.int x2), some (.int x3), some (.int x4), some (.int x5), some (.int x6)] [(.int y1), (.ref y2)] h (xldI (h.1 y0) (x1 + x6))) ∧
    (∀ (x0 y2 : Nat) (x1 x2 x3 x4 x5 x6 y0 y1 : Int32) (h : xH), W m_Job_keepLimit (84, [some (.ref x0), some (.int x1), some (.int x2), some (.int x3), some (.int x4), some (.int x5), some (.int x6)], [(.int y0), (.int y1), (.ref y2)]) h = xpush W m_Job_keepLimit 90 [some (.ref x0), some (.int x1), some (.int x2), some (.int x3), some (.int x4), some (.int x5), some (.int x6)] [(.int y1), (.ref y2)] h (xdv x4 (.int ((y0 * x5) / x4)))) ∧
    (∀ (x0 y2 : Nat) (x1 x2 x3 x4 x5 x6 y0 y1 : Int32) (h : xH), W m_Job_keepLimit (90, [some (.ref x0), some (.int x1), some (.int x2), some (.int x3), some (.int x4), some (.int x5), some (.int x6)], [(.int y0), (.int y1), (.ref y2)]) h = xthn W m_Job_keepLimit 91 [some (.ref x0), some (.int x1), some (.int x2), some (.int x3), some (.int x4), some (.int x5), some (.int x6)] [] (xstI (h.1 y2) h y2 y1 y0)) ∧
    (∀ (x0 : Nat) (x1 x2 x3 x4 x5 x6 : Int32) (h : xH), W m_Job_keepLimit (91, [some (.ref x0), some (.int x1), some (.int x2), some (.int x3), some (.int x4), some (.int x5), some (.int x6)], []) h = W m_Job_keepLimit (61, [some (.ref x0), some (.int x1), some (.int x2), some (.int x3), some (.int x4), some (.int x5), some (.int (x6 + (Int32.ofInt 1)))], []) h) ∧
    (∀ (x0 : Nat) (x1 x2 x3 x4 x5 x6 : Int32) (h : xH), W m_Job_keepLimit (97, [some (.ref x0), some (.int x1), some (.int x2), some (.int x3), some (.int x4), some (.int x5), some (.int x6)], []) h = some (.inl none, h)) :=
  ⟨fun _ _ _ _ => (xW_k hW 2 _ _ _).trans xq_fld,
   fun _ _ _ _ _ => (xW_k hW 4 _ _ _).trans xq_ldI,
   fun _ _ _ _ _ => (xW_k hW 3 _ _ _).trans xq_fld,
   fun _ _ _ _ _ _ => (xW_k hW 2 _ _ _).trans xq_ldI,
   fun _ _ _ _ _ _ => (xW_k hW 2 _ _ _).trans xq_fld,
   fun _ _ _ _ _ _ _ => (xW_k hW 4 _ _ _).trans xq_ldI,
   fun _ _ _ _ _ _ _ => (xW_k hW 3 _ _ _).trans xq_fld,
   fun _ _ _ _ _ _ _ => (xW_k hW 4 _ _ _).trans xq_ldI,
   fun _ _ _ _ _ _ _ => (xW_k hW 4 _ _ _).trans rfl,
   fun _ _ _ _ _ _ => (xW_k hW 5 _ _ _).trans rfl,
   fun _ _ _ _ _ _ => (xW_k hW 1 _ _ _).trans rfl,
   fun _ _ _ _ _ _ => (xW_k hW 5 _ _ _).trans rfl,
   fun _ _ _ _ _ _ _ => (xW_k hW 3 _ _ _).trans rfl,
   fun _ _ _ _ _ _ _ _ => (xW_k hW 2 _ _ _).trans xq_fld,
   fun _ _ _ _ _ _ _ _ _ => (xW_k hW 5 _ _ _).trans xq_fld,
   fun _ _ _ _ _ _ _ _ _ _ _ => (xW_k hW 4 _ _ _).trans xq_ldI,
   fun _ _ _ _ _ _ _ _ _ _ _ => (xW_k hW 4 _ _ _).trans xq_dv,
   fun _ _ _ _ _ _ _ _ _ _ _ => (xW_k hW 1 _ _ _).trans xq_stI,
   fun _ _ _ _ _ _ _ _ => (xW_k hW 2 _ _ _).trans rfl,
   fun _ _ _ _ _ _ _ _ => (xW_k hW 1 _ _ _).trans rfl⟩
theorem L_Job_keepLimit_61 (hW : ∀ M f h, W M f h = xbody V xF0 xG W M f h) :
    (∀ (x0 : Nat) (x1 x2 x3 x4 x5 x6 : Int32) (h : xH), W m_Job_keepLimit (61, [some (.ref x0), some (.int x1), some (.int x2), some (.int x3), some (.int x4), some (.int x5), some (.int x6)], []) h = if (Int32.ofInt 3) ≤ x6 then W m_Job_keepLimit (97, [some (.ref x0), some (.int x1), some (.int x2), some (.int x3), some (.int x4), some (.int x5), some (.int x6)], []) h else W m_Job_keepLimit (67, [some (.ref x0), some (.int x1), some (.int x2), some (.int x3), some (.int x4), some (.int x5), some (.int x6)], []) h) :=
  fun _ _ _ _ _ _ _ _ => (xW_k hW 3 _ _ _).trans rfl
theorem X_Job_keepLimit : xhs m_Job_keepLimit = [] := rfl
theorem E_Math_max (hW : ∀ M f h, W M f h = xbody V xF0 xG W M f h) :
    (∀ (x0 x1 : Int32) (h : xH), W m_Math_max (0, [some (.int x0), some (.int x1)], []) h = if x0 < x1 then W m_Math_max (9, [some (.int x0), some (.int x1)], []) h else W m_Math_max (5, [some (.int x0), some (.int x1)], []) h) ∧
    (∀ (x0 x1 : Int32) (h : xH), W m_Math_max (5, [some (.int x0), some (.int x1)], []) h = some (.inl (some (.int x0)), h)) ∧
    (∀ (x0 x1 : Int32) (h : xH), W m_Math_max (9, [some (.int x0), some (.int x1)], []) h = some (.inl (some (.int x1)), h)) :=
  ⟨fun _ _ _ => (xW_k hW 3 _ _ _).trans rfl,
   fun _ _ _ => (xW_k hW 3 _ _ _).trans rfl,
   fun _ _ _ => (xW_k hW 2 _ _ _).trans rfl⟩
theorem X_Math_max : xhs m_Math_max = [] := rfl
theorem E_Job_countColours (hW : ∀ M f h, W M f h = xbody V xF0 xG W M f h) :
    (∀ (x0 : Nat) (h : xH), W m_Job_countColours (0, [some (.ref x0), none, none, none], []) h = W m_Job_countColours (4, [some (.ref x0), some (.long 0), none, some (.int (Int32.ofInt 0))], []) h) ∧
    (∀ (x0 : Nat) (x1 : Int64) (x3 : Int32) (h : xH), W m_Job_countColours (11, [some (.ref x0), some (.long x1), none, some (.int x3)], []) h = xpush W m_Job_countColours 17 [some (.ref x0), some (.long x1), none, some (.int x3)] [(.long 1), (.long x1)] h (xfld 1 0 (h.1 x0))) ∧
    (∀ (x0 y0 : Nat) (x1 y1 y2 : Int64) (x3 : Int32) (h : xH), W m_Job_countColours (17, [some (.ref x0), some (.long x1), none, some (.int x3)], [(.ref y0), (.long y1), (.long y2)]) h = xpush W m_Job_countColours 19 [some (.ref x0), some (.long x1), none, some (.int x3)] [(.long y1), (.long y2)] h (xldI (h.1 y0) x3)) ∧
    (∀ (x0 : Nat) (x1 y1 y2 : Int64) (x3 y0 : Int32) (h : xH), W m_Job_countColours (19, [some (.ref x0), some (.long x1), none, some (.int x3)], [(.int y0), (.long y1), (.long y2)]) h = W m_Job_countColours (4, [some (.ref x0), some (.long (y2 ||| (y1 <<< (Int32.toInt64 y0 &&& 63)))), none, some (.int (x3 + (Int32.ofInt 1)))], []) h) ∧
    (∀ (x0 : Nat) (x1 : Int64) (x3 : Int32) (h : xH), W m_Job_countColours (28, [some (.ref x0), some (.long x1), none, some (.int x3)], []) h = xret W m_Job_countColours 29 32 [some (.ref x0), some (.long x1), none, some (.int x3)] [] (W m_Long_bitCount (0, [some (.long x1), none], []) h)) ∧
    (∀ (x0 : Nat) (x1 : Int64) (x3 y0 : Int32) (h : xH), W m_Job_countColours (32, [some (.ref x0), some (.long x1), none, some (.int x3)], [(.int y0)]) h = some (.inl (some (.int y0)), h)) :=
  ⟨fun _ _ => (xW_k hW 4 _ _ _).trans rfl,
   fun _ _ _ _ => (xW_k hW 4 _ _ _).trans xq_fld,
   fun _ _ _ _ _ _ _ => (xW_k hW 2 _ _ _).trans xq_ldI,
   fun _ _ _ _ _ _ _ => (xW_k hW 5 _ _ _).trans rfl,
   fun _ _ _ _ => (xW_k hW 2 _ _ _).trans rfl,
   fun _ _ _ _ _ => (xW_k hW 1 _ _ _).trans rfl⟩
theorem L_Job_countColours_4 (hW : ∀ M f h, W M f h = xbody V xF0 xG W M f h) :
    (∀ (x0 : Nat) (x1 : Int64) (x3 : Int32) (h : xH), W m_Job_countColours (4, [some (.ref x0), some (.long x1), none, some (.int x3)], []) h = if (Int32.ofInt 3072) ≤ x3 then W m_Job_countColours (28, [some (.ref x0), some (.long x1), none, some (.int x3)], []) h else W m_Job_countColours (11, [some (.ref x0), some (.long x1), none, some (.int x3)], []) h) :=
  fun _ _ _ _ => (xW_k hW 3 _ _ _).trans rfl
theorem X_Job_countColours : xhs m_Job_countColours = [] := rfl
theorem E_Long_bitCount (hW : ∀ M f h, W M f h = xbody V xF0 xG W M f h) :
    (∀ (x0 : Int64) (h : xH), W m_Long_bitCount (0, [some (.long x0), none], []) h = some (.inl (some (.int ((Int64.toInt32 ((((((((x0 - (((Int64.toUInt64 x0 >>> ((Int32.toInt64 (Int32.ofInt 1)).toUInt64 &&& Int64.toUInt64 63)).toInt64) &&& 6148914691236517205)) &&& 3689348814741910323) + (((Int64.toUInt64 (x0 - (((Int64.toUInt64 x0 >>> ((Int32.toInt64 (Int32.ofInt 1)).toUInt64 &&& Int64.toUInt64 63)).toInt64) &&& 6148914691236517205)) >>> ((Int32.toInt64 (Int32.ofInt 2)).toUInt64 &&& Int64.toUInt64 63)).toInt64) &&& 3689348814741910323)) + ((Int64.toUInt64 (((x0 - (((Int64.toUInt64 x0 >>> ((Int32.toInt64 (Int32.ofInt 1)).toUInt64 &&& Int64.toUInt64 63)).toInt64) &&& 6148914691236517205)) &&& 3689348814741910323) + (((Int64.toUInt64 (x0 - (((Int64.toUInt64 x0 >>> ((Int32.toInt64 (Int32.ofInt 1)).toUInt64 &&& Int64.toUInt64 63)).toInt64) &&& 6148914691236517205)) >>> ((Int32.toInt64 (Int32.ofInt 2)).toUInt64 &&& Int64.toUInt64 63)).toInt64) &&& 3689348814741910323)) >>> ((Int32.toInt64 (Int32.ofInt 4)).toUInt64 &&& Int64.toUInt64 63)).toInt64)) &&& 1085102592571150095) + ((Int64.toUInt64 (((((x0 - (((Int64.toUInt64 x0 >>> ((Int32.toInt64 (Int32.ofInt 1)).toUInt64 &&& Int64.toUInt64 63)).toInt64) &&& 6148914691236517205)) &&& 3689348814741910323) + (((Int64.toUInt64 (x0 - (((Int64.toUInt64 x0 >>> ((Int32.toInt64 (Int32.ofInt 1)).toUInt64 &&& Int64.toUInt64 63)).toInt64) &&& 6148914691236517205)) >>> ((Int32.toInt64 (Int32.ofInt 2)).toUInt64 &&& Int64.toUInt64 63)).toInt64) &&& 3689348814741910323)) + ((Int64.toUInt64 (((x0 - (((Int64.toUInt64 x0 >>> ((Int32.toInt64 (Int32.ofInt 1)).toUInt64 &&& Int64.toUInt64 63)).toInt64) &&& 6148914691236517205)) &&& 3689348814741910323) + (((Int64.toUInt64 (x0 - (((Int64.toUInt64 x0 >>> ((Int32.toInt64 (Int32.ofInt 1)).toUInt64 &&& Int64.toUInt64 63)).toInt64) &&& 6148914691236517205)) >>> ((Int32.toInt64 (Int32.ofInt 2)).toUInt64 &&& Int64.toUInt64 63)).toInt64) &&& 3689348814741910323)) >>> ((Int32.toInt64 (Int32.ofInt 4)).toUInt64 &&& Int64.toUInt64 63)).toInt64)) &&& 1085102592571150095) >>> ((Int32.toInt64 (Int32.ofInt 8)).toUInt64 &&& Int64.toUInt64 63)).toInt64)) + ((Int64.toUInt64 ((((((x0 - (((Int64.toUInt64 x0 >>> ((Int32.toInt64 (Int32.ofInt 1)).toUInt64 &&& Int64.toUInt64 63)).toInt64) &&& 6148914691236517205)) &&& 3689348814741910323) + (((Int64.toUInt64 (x0 - (((Int64.toUInt64 x0 >>> ((Int32.toInt64 (Int32.ofInt 1)).toUInt64 &&& Int64.toUInt64 63)).toInt64) &&& 6148914691236517205)) >>> ((Int32.toInt64 (Int32.ofInt 2)).toUInt64 &&& Int64.toUInt64 63)).toInt64) &&& 3689348814741910323)) + ((Int64.toUInt64 (((x0 - (((Int64.toUInt64 x0 >>> ((Int32.toInt64 (Int32.ofInt 1)).toUInt64 &&& Int64.toUInt64 63)).toInt64) &&& 6148914691236517205)) &&& 3689348814741910323) + (((Int64.toUInt64 (x0 - (((Int64.toUInt64 x0 >>> ((Int32.toInt64 (Int32.ofInt 1)).toUInt64 &&& Int64.toUInt64 63)).toInt64) &&& 6148914691236517205)) >>> ((Int32.toInt64 (Int32.ofInt 2)).toUInt64 &&& Int64.toUInt64 63)).toInt64) &&& 3689348814741910323)) >>> ((Int32.toInt64 (Int32.ofInt 4)).toUInt64 &&& Int64.toUInt64 63)).toInt64)) &&& 1085102592571150095) + ((Int64.toUInt64 (((((x0 - (((Int64.toUInt64 x0 >>> ((Int32.toInt64 (Int32.ofInt 1)).toUInt64 &&& Int64.toUInt64 63)).toInt64) &&& 6148914691236517205)) &&& 3689348814741910323) + (((Int64.toUInt64 (x0 - (((Int64.toUInt64 x0 >>> ((Int32.toInt64 (Int32.ofInt 1)).toUInt64 &&& Int64.toUInt64 63)).toInt64) &&& 6148914691236517205)) >>> ((Int32.toInt64 (Int32.ofInt 2)).toUInt64 &&& Int64.toUInt64 63)).toInt64) &&& 3689348814741910323)) + ((Int64.toUInt64 (((x0 - (((Int64.toUInt64 x0 >>> ((Int32.toInt64 (Int32.ofInt 1)).toUInt64 &&& Int64.toUInt64 63)).toInt64) &&& 6148914691236517205)) &&& 3689348814741910323) + (((Int64.toUInt64 (x0 - (((Int64.toUInt64 x0 >>> ((Int32.toInt64 (Int32.ofInt 1)).toUInt64 &&& Int64.toUInt64 63)).toInt64) &&& 6148914691236517205)) >>> ((Int32.toInt64 (Int32.ofInt 2)).toUInt64 &&& Int64.toUInt64 63)).toInt64) &&& 3689348814741910323)) >>> ((Int32.toInt64 (Int32.ofInt 4)).toUInt64 &&& Int64.toUInt64 63)).toInt64)) &&& 1085102592571150095) >>> ((Int32.toInt64 (Int32.ofInt 8)).toUInt64 &&& Int64.toUInt64 63)).toInt64)) >>> ((Int32.toInt64 (Int32.ofInt 16)).toUInt64 &&& Int64.toUInt64 63)).toInt64)) + ((Int64.toUInt64 (((((((x0 - (((Int64.toUInt64 x0 >>> ((Int32.toInt64 (Int32.ofInt 1)).toUInt64 &&& Int64.toUInt64 63)).toInt64) &&& 6148914691236517205)) &&& 3689348814741910323) + (((Int64.toUInt64 (x0 - (((Int64.toUInt64 x0 >>> ((Int32.toInt64 (Int32.ofInt 1)).toUInt64 &&& Int64.toUInt64 63)).toInt64) &&& 6148914691236517205)) >>> ((Int32.toInt64 (Int32.ofInt 2)).toUInt64 &&& Int64.toUInt64 63)).toInt64) &&& 3689348814741910323)) + ((Int64.toUInt64 (((x0 - (((Int64.toUInt64 x0 >>> ((Int32.toInt64 (Int32.ofInt 1)).toUInt64 &&& Int64.toUInt64 63)).toInt64) &&& 6148914691236517205)) &&& 3689348814741910323) + (((Int64.toUInt64 (x0 - (((Int64.toUInt64 x0 >>> ((Int32.toInt64 (Int32.ofInt 1)).toUInt64 &&& Int64.toUInt64 63)).toInt64) &&& 6148914691236517205)) >>> ((Int32.toInt64 (Int32.ofInt 2)).toUInt64 &&& Int64.toUInt64 63)).toInt64) &&& 3689348814741910323)) >>> ((Int32.toInt64 (Int32.ofInt 4)).toUInt64 &&& Int64.toUInt64 63)).toInt64)) &&& 1085102592571150095) + ((Int64.toUInt64 (((((x0 - (((Int64.toUInt64 x0 >>> ((Int32.toInt64 (Int32.ofInt 1)).toUInt64 &&& Int64.toUInt64 63)).toInt64) &&& 6148914691236517205)) &&& 3689348814741910323) + (((Int64.toUInt64 (x0 - (((Int64.toUInt64 x0 >>> ((Int32.toInt64 (Int32.ofInt 1)).toUInt64 &&& Int64.toUInt64 63)).toInt64) &&& 6148914691236517205)) >>> ((Int32.toInt64 (Int32.ofInt 2)).toUInt64 &&& Int64.toUInt64 63)).toInt64) &&& 3689348814741910323)) + ((Int64.toUInt64 (((x0 - (((Int64.toUInt64 x0 >>> ((Int32.toInt64 (Int32.ofInt 1)).toUInt64 &&& Int64.toUInt64 63)).toInt64) &&& 6148914691236517205)) &&& 3689348814741910323) + (((Int64.toUInt64 (x0 - (((Int64.toUInt64 x0 >>> ((Int32.toInt64 (Int32.ofInt 1)).toUInt64 &&& Int64.toUInt64 63)).toInt64) &&& 6148914691236517205)) >>> ((Int32.toInt64 (Int32.ofInt 2)).toUInt64 &&& Int64.toUInt64 63)).toInt64) &&& 3689348814741910323)) >>> ((Int32.toInt64 (Int32.ofInt 4)).toUInt64 &&& Int64.toUInt64 63)).toInt64)) &&& 1085102592571150095) >>> ((Int32.toInt64 (Int32.ofInt 8)).toUInt64 &&& Int64.toUInt64 63)).toInt64)) + ((Int64.toUInt64 ((((((x0 - (((Int64.toUInt64 x0 >>> ((Int32.toInt64 (Int32.ofInt 1)).toUInt64 &&& Int64.toUInt64 63)).toInt64) &&& 6148914691236517205)) &&& 3689348814741910323) + (((Int64.toUInt64 (x0 - (((Int64.toUInt64 x0 >>> ((Int32.toInt64 (Int32.ofInt 1)).toUInt64 &&& Int64.toUInt64 63)).toInt64) &&& 6148914691236517205)) >>> ((Int32.toInt64 (Int32.ofInt 2)).toUInt64 &&& Int64.toUInt64 63)).toInt64) &&& 3689348814741910323)) + ((Int64.toUInt64 (((x0 - (((Int64.toUInt64 x0 >>> ((Int32.toInt64 (Int32.ofInt 1)).toUInt64 &&& Int64.toUInt64 63)).toInt64) &&& 6148914691236517205)) &&& 3689348814741910323) + (((Int64.toUInt64 (x0 - (((Int64.toUInt64 x0 >>> ((Int32.toInt64 (Int32.ofInt 1)).toUInt64 &&& Int64.toUInt64 63)).toInt64) &&& 6148914691236517205)) >>> ((Int32.toInt64 (Int32.ofInt 2)).toUInt64 &&& Int64.toUInt64 63)).toInt64) &&& 3689348814741910323)) >>> ((Int32.toInt64 (Int32.ofInt 4)).toUInt64 &&& Int64.toUInt64 63)).toInt64)) &&& 1085102592571150095) + ((Int64.toUInt64 (((((x0 - (((Int64.toUInt64 x0 >>> ((Int32.toInt64 (Int32.ofInt 1)).toUInt64 &&& Int64.toUInt64 63)).toInt64) &&& 6148914691236517205)) &&& 3689348814741910323) + (((Int64.toUInt64 (x0 - (((Int64.toUInt64 x0 >>> ((Int32.toInt64 (Int32.ofInt 1)).toUInt64 &&& Int64.toUInt64 63)).toInt64) &&& 6148914691236517205)) >>> ((Int32.toInt64 (Int32.ofInt 2)).toUInt64 &&& Int64.toUInt64 63)).toInt64) &&& 3689348814741910323)) + ((Int64.toUInt64 (((x0 - (((Int64.toUInt64 x0 >>> ((Int32.toInt64 (Int32.ofInt 1)).toUInt64 &&& Int64.toUInt64 63)).toInt64) &&& 6148914691236517205)) &&& 3689348814741910323) + (((Int64.toUInt64 (x0 - (((Int64.toUInt64 x0 >>> ((Int32.toInt64 (Int32.ofInt 1)).toUInt64 &&& Int64.toUInt64 63)).toInt64) &&& 6148914691236517205)) >>> ((Int32.toInt64 (Int32.ofInt 2)).toUInt64 &&& Int64.toUInt64 63)).toInt64) &&& 3689348814741910323)) >>> ((Int32.toInt64 (Int32.ofInt 4)).toUInt64 &&& Int64.toUInt64 63)).toInt64)) &&& 1085102592571150095) >>> ((Int32.toInt64 (Int32.ofInt 8)).toUInt64 &&& Int64.toUInt64 63)).toInt64)) >>> ((Int32.toInt64 (Int32.ofInt 16)).toUInt64 &&& Int64.toUInt64 63)).toInt64)) >>> ((Int32.toInt64 (Int32.ofInt 32)).toUInt64 &&& Int64.toUInt64 63)).toInt64))) &&& (Int32.ofInt 127)))), h)) :=
  fun _ _ => (xW_k hW 49 _ _ _).trans rfl
theorem X_Long_bitCount : xhs m_Long_bitCount = [] := rfl
theorem E_Law_plate (hW : ∀ M f h, W M f h = xbody V xF0 xG W M f h) :
    (∀ (x0 x5 : Nat) (x1 x2 x3 x4 : Int32) (h : xH), W m_Law_plate (0, [some (.ref x0), some (.int x1), some (.int x2), some (.int x3), some (.int x4), some (.ref x5), none], []) h = xret W m_Law_plate 9 12 [some (.ref x0), some (.int x1), some (.int x2), some (.int x3), some (.int x4), some (.ref x5), none] [(.int (Int32.ofInt 0)), (.ref x5)] (xrc 0 (h.1 x0) (W m_Room_plate (0, [some (.ref x0), some (.int x1), some (.int x2), some (.int x3), some (.int x4)], []) h))) ∧
    (∀ (x0 x5 y2 : Nat) (x1 x2 x3 x4 y0 y1 : Int32) (h : xH), W m_Law_plate (12, [some (.ref x0), some (.int x1), some (.int x2), some (.int x3), some (.int x4), some (.ref x5), none], [(.int y0), (.int y1), (.ref y2)]) h = xthn W m_Law_plate 14 [some (.ref x0), some (.int x1), some (.int x2), some (.int x3), some (.int x4), some (.ref x5), none] [] (xstL (h.1 y2) h y2 y1 (Int32.toInt64 y0))) ∧
    (∀ (x0 x5 : Nat) (x1 x2 x3 x4 : Int32) (h : xH), W m_Law_plate (14, [some (.ref x0), some (.int x1), some (.int x2), some (.int x3), some (.int x4), some (.ref x5), none], []) h = some (.inl (some (.int (Int32.ofInt 0))), h)) ∧
    (∀ (x0 x5 y0 : Nat) (x1 x2 x3 x4 : Int32) (h : xH), W m_Law_plate (17, [some (.ref x0), some (.int x1), some (.int x2), some (.int x3), some (.int x4), some (.ref x5), none], [(.ref y0)]) h = some (.inl (some (.int (Int32.ofInt 1))), h)) ∧
    (∀ (x0 x5 y0 : Nat) (x1 x2 x3 x4 : Int32) (h : xH), W m_Law_plate (21, [some (.ref x0), some (.int x1), some (.int x2), some (.int x3), some (.int x4), some (.ref x5), none], [(.ref y0)]) h = some (.inl (some (.int (Int32.ofInt 2))), h)) :=
  ⟨fun _ _ _ _ _ _ _ => (xW_k hW 8 _ _ _).trans xq_rc,
   fun _ _ _ _ _ _ _ _ _ _ => (xW_k hW 2 _ _ _).trans xq_stL,
   fun _ _ _ _ _ _ _ => (xW_k hW 3 _ _ _).trans rfl,
   fun _ _ _ _ _ _ _ _ => (xW_k hW 3 _ _ _).trans rfl,
   fun _ _ _ _ _ _ _ _ => (xW_k hW 3 _ _ _).trans rfl⟩
theorem E_Room_plate (hW : ∀ M f h, W M f h = xbody V xF0 xG W M f h) :
    (∀ (x0 : Nat) (x1 x2 x3 x4 : Int32) (h : xH), W m_Room_plate (0, [some (.ref x0), some (.int x1), some (.int x2), some (.int x3), some (.int x4)], []) h = xret W m_Room_plate 3 6 [some (.ref x0), some (.int x1), some (.int x2), some (.int x3), some (.int x4)] [] (W m_Room_needIndex (0, [some (.int x2), some (.int (Int32.ofInt 8))], []) h)) ∧
    (∀ (x0 : Nat) (x1 x2 x3 x4 : Int32) (h : xH), W m_Room_plate (6, [some (.ref x0), some (.int x1), some (.int x2), some (.int x3), some (.int x4)], []) h = xret W m_Room_plate 11 14 [some (.ref x0), some (.int x1), some (.int x2), some (.int x3), some (.int x4)] [] (xrc 0 (h.1 x0) (W m_Room_madeJob (0, [some (.ref x0), some (.int x1), some (.int x3), some (.int x4)], []) h))) ∧
    (∀ (x0 y0 : Nat) (x1 x2 x3 x4 : Int32) (h : xH), W m_Room_plate (14, [some (.ref x0), some (.int x1), some (.int x2), some (.int x3), some (.int x4)], [(.ref y0)]) h = xret W m_Room_plate 17 20 [some (.ref x0), some (.int x1), some (.int x2), some (.int x3), some (.int x4)] [(.ref y0)] (W m_Room_cellAt (0, [some (.int x3), some (.int x4)], []) h)) ∧
    (∀ (x0 y1 : Nat) (x1 x2 x3 x4 y0 : Int32) (h : xH), W m_Room_plate (20, [some (.ref x0), some (.int x1), some (.int x2), some (.int x3), some (.int x4)], [(.int y0), (.ref y1)]) h = xret W m_Room_plate 21 24 [some (.ref x0), some (.int x1), some (.int x2), some (.int x3), some (.int x4)] [] (xrc 1 (h.1 y1) (W m_Job_amountAt (0, [some (.ref y1), some (.int y0), some (.int x2), none], []) h))) ∧
    (∀ (x0 : Nat) (x1 x2 x3 x4 y0 : Int32) (h : xH), W m_Room_plate (24, [some (.ref x0), some (.int x1), some (.int x2), some (.int x3), some (.int x4)], [(.int y0)]) h = some (.inl (some (.int y0)), h)) :=
  ⟨fun _ _ _ _ _ _ => (xW_k hW 3 _ _ _).trans rfl,
   fun _ _ _ _ _ _ => (xW_k hW 5 _ _ _).trans xq_rc,
   fun _ _ _ _ _ _ _ => (xW_k hW 3 _ _ _).trans rfl,
   fun _ _ _ _ _ _ _ _ => (xW_k hW 2 _ _ _).trans xq_rc,
   fun _ _ _ _ _ _ _ => (xW_k hW 1 _ _ _).trans rfl⟩
theorem X_Room_plate : xhs m_Room_plate = [] := rfl
theorem E_Room_madeJob (hW : ∀ M f h, W M f h = xbody V xF0 xG W M f h) :
    (∀ (x0 : Nat) (x1 x2 x3 : Int32) (h : xH), W m_Room_madeJob (0, [some (.ref x0), some (.int x1), some (.int x2), some (.int x3)], []) h = xret W m_Room_madeJob 3 6 [some (.ref x0), some (.int x1), some (.int x2), some (.int x3)] [] (W m_Room_needCell (0, [some (.int x1), some (.int x2), some (.int x3)], []) h)) ∧
    (∀ (x0 : Nat) (x1 x2 x3 : Int32) (h : xH), W m_Room_madeJob (6, [some (.ref x0), some (.int x1), some (.int x2), some (.int x3)], []) h = xpush W m_Room_madeJob 10 [some (.ref x0), some (.int x1), some (.int x2), some (.int x3)] [] h (xfld 0 2 (h.1 x0))) ∧
    (∀ (x0 y0 : Nat) (x1 x2 x3 : Int32) (h : xH), W m_Room_madeJob (10, [some (.ref x0), some (.int x1), some (.int x2), some (.int x3)], [(.ref y0)]) h = xpush W m_Room_madeJob 12 [some (.ref x0), some (.int x1), some (.int x2), some (.int x3)] [] h (xldR (h.1 y0) x1)) ∧
    (∀ (x0 y0 : Nat) (x1 x2 x3 : Int32) (h : xH), W m_Room_madeJob (12, [some (.ref x0), some (.int x1), some (.int x2), some (.int x3)], [(.ref y0)]) h = xret W m_Room_madeJob 12 15 [some (.ref x0), some (.int x1), some (.int x2), some (.int x3)] [] (xrc 1 (h.1 y0) (W m_Job_isMade (0, [some (.ref y0)], []) h))) ∧
    (∀ (x0 : Nat) (x1 x2 x3 y0 : Int32) (h : xH), W m_Room_madeJob (15, [some (.ref x0), some (.int x1), some (.int x2), some (.int x3)], [(.int y0)]) h = if y0 = (Int32.ofInt 0) then W m_Room_madeJob (18, [some (.ref x0), some (.int x1), some (.int x2), some (.int x3)], []) h else W m_Room_madeJob (28, [some (.ref x0), some (.int x1), some (.int x2), some (.int x3)], []) h) ∧
    (∀ (x0 : Nat) (x1 x2 x3 : Int32) (h : xH), W m_Room_madeJob (18, [some (.ref x0), some (.int x1), some (.int x2), some (.int x3)], []) h = some (.inr (10, h.2.1), xnew h (xO' 10 []) 6)) ∧
    (∀ (x0 : Nat) (x1 x2 x3 : Int32) (h : xH), W m_Room_madeJob (28, [some (.ref x0), some (.int x1), some (.int x2), some (.int x3)], []) h = xpush W m_Room_madeJob 32 [some (.ref x0), some (.int x1), some (.int x2), some (.int x3)] [] h (xfld 0 2 (h.1 x0))) ∧
    (∀ (x0 y0 : Nat) (x1 x2 x3 : Int32) (h : xH), W m_Room_madeJob (32, [some (.ref x0), some (.int x1), some (.int x2), some (.int x3)], [(.ref y0)]) h = xpush W m_Room_madeJob 34 [some (.ref x0), some (.int x1), some (.int x2), some (.int x3)] [] h (xldR (h.1 y0) x1)) ∧
    (∀ (x0 y0 : Nat) (x1 x2 x3 : Int32) (h : xH), W m_Room_madeJob (34, [some (.ref x0), some (.int x1), some (.int x2), some (.int x3)], [(.ref y0)]) h = some (.inl (some (.ref y0)), h)) :=
  ⟨fun _ _ _ _ _ => (xW_k hW 4 _ _ _).trans rfl,
   fun _ _ _ _ _ => (xW_k hW 2 _ _ _).trans xq_fld,
   fun _ _ _ _ _ _ => (xW_k hW 2 _ _ _).trans xq_ldR,
   fun _ _ _ _ _ _ => (xW_k hW 1 _ _ _).trans xq_rc,
   fun _ _ _ _ _ _ => (xW_k hW 1 _ _ _).trans rfl,
   fun _ _ _ _ _ => (xW_k hW 1 _ _ _).trans rfl,
   fun _ _ _ _ _ => (xW_k hW 2 _ _ _).trans xq_fld,
   fun _ _ _ _ _ _ => (xW_k hW 2 _ _ _).trans xq_ldR,
   fun _ _ _ _ _ _ => (xW_k hW 1 _ _ _).trans rfl⟩
theorem X_Room_madeJob : xhs m_Room_madeJob = [] := rfl
theorem E_Job_isMade (hW : ∀ M f h, W M f h = xbody V xF0 xG W M f h) :
    (∀ (x0 : Nat) (h : xH), W m_Job_isMade (0, [some (.ref x0)], []) h = xpush W m_Job_isMade 4 [some (.ref x0)] [] h (xfld 1 3 (h.1 x0))) ∧
    (∀ (x0 : Nat) (y0 : Int32) (h : xH), W m_Job_isMade (4, [some (.ref x0)], [(.int y0)]) h = xB (decide (y0 = 0 ∨ y0 = 1)) (some (.inl (some (.int y0)), h))) :=
  ⟨fun _ _ => (xW_k hW 2 _ _ _).trans xq_fld,
   fun _ _ _ => (xW_k hW 1 _ _ _).trans rfl⟩
theorem X_Job_isMade : xhs m_Job_isMade = [] := rfl
theorem E_Job_amountAt (hW : ∀ M f h, W M f h = xbody V xF0 xG W M f h) :
    (∀ (x0 : Nat) (x1 x2 : Int32) (h : xH), W m_Job_amountAt (0, [some (.ref x0), some (.int x1), some (.int x2), none], []) h = xpush W m_Job_amountAt 4 [some (.ref x0), some (.int x1), some (.int x2), none] [] h (xfld 1 2 (h.1 x0))) ∧
    (∀ (x0 y0 : Nat) (x1 x2 : Int32) (h : xH), W m_Job_amountAt (4, [some (.ref x0), some (.int x1), some (.int x2), none], [(.ref y0)]) h = xpush W m_Job_amountAt 8 [some (.ref x0), some (.int x1), some (.int x2), none] [(.ref y0)] h (xfld 1 0 (h.1 x0))) ∧
    (∀ (x0 y0 y1 : Nat) (x1 x2 : Int32) (h : xH), W m_Job_amountAt (8, [some (.ref x0), some (.int x1), some (.int x2), none], [(.ref y0), (.ref y1)]) h = xpush W m_Job_amountAt 10 [some (.ref x0), some (.int x1), some (.int x2), none] [(.ref y1)] h (xldI (h.1 y0) x1)) ∧
    (∀ (x0 y1 : Nat) (x1 x2 y0 : Int32) (h : xH), W m_Job_amountAt (10, [some (.ref x0), some (.int x1), some (.int x2), none], [(.int y0), (.ref y1)]) h = xpush W m_Job_amountAt 16 [some (.ref x0), some (.int x1), some (.int x2), none] [] h (xldI (h.1 y1) ((y0 * (Int32.ofInt 8)) + x2))) ∧
    (∀ (x0 : Nat) (x1 x2 y0 : Int32) (h : xH), W m_Job_amountAt (16, [some (.ref x0), some (.int x1), some (.int x2), none], [(.int y0)]) h = xpush W m_Job_amountAt 21 [some (.ref x0), some (.int x1), some (.int x2), some (.int y0)] [] h (xfld 1 1 (h.1 x0))) ∧
    (∀ (x0 y0 : Nat) (x1 x2 x3 : Int32) (h : xH), W m_Job_amountAt (21, [some (.ref x0), some (.int x1), some (.int x2), some (.int x3)], [(.ref y0)]) h = xpush W m_Job_amountAt 23 [some (.ref x0), some (.int x1), some (.int x2), some (.int x3)] [] h (xldI (h.1 y0) x1)) ∧
    (∀ (x0 : Nat) (x1 x2 x3 y0 : Int32) (h : xH), W m_Job_amountAt (23, [some (.ref x0), some (.int x1), some (.int x2), some (.int x3)], [(.int y0)]) h = if y0 = (Int32.ofInt (-1)) then W m_Job_amountAt (27, [some (.ref x0), some (.int x1), some (.int x2), some (.int x3)], []) h else W m_Job_amountAt (31, [some (.ref x0), some (.int x1), some (.int x2), some (.int x3)], []) h) ∧
    (∀ (x0 : Nat) (x1 x2 x3 : Int32) (h : xH), W m_Job_amountAt (27, [some (.ref x0), some (.int x1), some (.int x2), some (.int x3)], []) h = some (.inl (some (.int x3)), h)) ∧
    (∀ (x0 : Nat) (x1 x2 x3 : Int32) (h : xH), W m_Job_amountAt (31, [some (.ref x0), some (.int x1), some (.int x2), some (.int x3)], []) h = xpush W m_Job_amountAt 36 [some (.ref x0), some (.int x1), some (.int x2), some (.int x3)] [(.int x3)] h (xfld 1 2 (h.1 x0))) ∧
    (∀ (x0 y0 : Nat) (x1 x2 x3 y1 : Int32) (h : xH), W m_Job_amountAt (36, [some (.ref x0), some (.int x1), some (.int x2), some (.int x3)], [(.ref y0), (.int y1)]) h = xpush W m_Job_amountAt 40 [some (.ref x0), some (.int x1), some (.int x2), some (.int x3)] [(.ref y0), (.int y1)] h (xfld 1 1 (h.1 x0))) ∧
    (∀ (x0 y0 y1 : Nat) (x1 x2 x3 y2 : Int32) (h : xH), W m_Job_amountAt (40, [some (.ref x0), some (.int x1), some (.int x2), some (.int x3)], [(.ref y0), (.ref y1), (.int y2)]) h = xpush W m_Job_amountAt 42 [some (.ref x0), some (.int x1), some (.int x2), some (.int x3)] [(.ref y1), (.int y2)] h (xldI (h.1 y0) x1)) ∧
    (∀ (x0 y1 : Nat) (x1 x2 x3 y0 y2 : Int32) (h : xH), W m_Job_amountAt (42, [some (.ref x0), some (.int x1), some (.int x2), some (.int x3)], [(.int y0), (.ref y1), (.int y2)]) h = xpush W m_Job_amountAt 48 [some (.ref x0), some (.int x1), some (.int x2), some (.int x3)] [(.int y2)] h (xldI (h.1 y1) ((y0 * (Int32.ofInt 8)) + x2))) ∧
    (∀ (x0 : Nat) (x1 x2 x3 y0 y1 : Int32) (h : xH), W m_Job_amountAt (48, [some (.ref x0), some (.int x1), some (.int x2), some (.int x3)], [(.int y0), (.int y1)]) h = xret W m_Job_amountAt 48 51 [some (.ref x0), some (.int x1), some (.int x2), some (.int x3)] [] (W m_Math_max (0, [some (.int y1), some (.int y0)], []) h)) ∧
    (∀ (x0 : Nat) (x1 x2 x3 y0 : Int32) (h : xH), W m_Job_amountAt (51, [some (.ref x0), some (.int x1), some (.int x2), some (.int x3)], [(.int y0)]) h = some (.inl (some (.int y0)), h)) :=
  ⟨fun _ _ _ _ => (xW_k hW 2 _ _ _).trans xq_fld,
   fun _ _ _ _ _ => (xW_k hW 2 _ _ _).trans xq_fld,
   fun _ _ _ _ _ _ => (xW_k hW 2 _ _ _).trans xq_ldI,
   fun _ _ _ _ _ _ => (xW_k hW 5 _ _ _).trans xq_ldI,
   fun _ _ _ _ _ => (xW_k hW 3 _ _ _).trans xq_fld,
   fun _ _ _ _ _ _ => (xW_k hW 2 _ _ _).trans xq_ldI,
   fun _ _ _ _ _ _ => (xW_k hW 2 _ _ _).trans rfl,
   fun _ _ _ _ _ => (xW_k hW 3 _ _ _).trans rfl,
   fun _ _ _ _ _ => (xW_k hW 3 _ _ _).trans xq_fld,
   fun _ _ _ _ _ _ _ => (xW_k hW 2 _ _ _).trans xq_fld,
   fun _ _ _ _ _ _ _ _ => (xW_k hW 2 _ _ _).trans xq_ldI,
   fun _ _ _ _ _ _ _ _ => (xW_k hW 5 _ _ _).trans xq_ldI,
   fun _ _ _ _ _ _ _ => (xW_k hW 1 _ _ _).trans rfl,
   fun _ _ _ _ _ _ => (xW_k hW 1 _ _ _).trans rfl⟩
theorem X_Job_amountAt : xhs m_Job_amountAt = [] := rfl
theorem E_Law_trap (hW : ∀ M f h, W M f h = xbody V xF0 xG W M f h) :
    (∀ (x0 x3 : Nat) (x1 x2 : Int32) (h : xH), W m_Law_trap (0, [some (.ref x0), some (.int x1), some (.int x2), some (.ref x3), none], []) h = xret W m_Law_trap 5 8 [some (.ref x0), some (.int x1), some (.int x2), some (.ref x3), none] [(.int (Int32.ofInt 0)), (.ref x3)] (xrc 0 (h.1 x0) (W m_Room_trap (0, [some (.ref x0), some (.int x1), some (.int x2), none], []) h))) ∧
    (∀ (x0 x3 y2 : Nat) (x1 x2 y0 y1 : Int32) (h : xH), W m_Law_trap (8, [some (.ref x0), some (.int x1), some (.int x2), some (.ref x3), none], [(.int y0), (.int y1), (.ref y2)]) h = xthn W m_Law_trap 10 [some (.ref x0), some (.int x1), some (.int x2), some (.ref x3), none] [] (xstL (h.1 y2) h y2 y1 (Int32.toInt64 y0))) ∧
    (∀ (x0 x3 : Nat) (x1 x2 : Int32) (h : xH), W m_Law_trap (10, [some (.ref x0), some (.int x1), some (.int x2), some (.ref x3), none], []) h = some (.inl (some (.int (Int32.ofInt 0))), h)) ∧
    (∀ (x0 x3 y0 : Nat) (x1 x2 : Int32) (h : xH), W m_Law_trap (13, [some (.ref x0), some (.int x1), some (.int x2), some (.ref x3), none], [(.ref y0)]) h = some (.inl (some (.int (Int32.ofInt 1))), h)) ∧
    (∀ (x0 x3 y0 : Nat) (x1 x2 : Int32) (h : xH), W m_Law_trap (17, [some (.ref x0), some (.int x1), some (.int x2), some (.ref x3), none], [(.ref y0)]) h = some (.inl (some (.int (Int32.ofInt 2))), h)) ∧
    (∀ (x0 x3 y0 : Nat) (x1 x2 : Int32) (h : xH), W m_Law_trap (21, [some (.ref x0), some (.int x1), some (.int x2), some (.ref x3), none], [(.ref y0)]) h = some (.inl (some (.int (Int32.ofInt 3))), h)) :=
  ⟨fun _ _ _ _ _ => (xW_k hW 6 _ _ _).trans xq_rc,
   fun _ _ _ _ _ _ _ _ => (xW_k hW 2 _ _ _).trans xq_stL,
   fun _ _ _ _ _ => (xW_k hW 3 _ _ _).trans rfl,
   fun _ _ _ _ _ _ => (xW_k hW 3 _ _ _).trans rfl,
   fun _ _ _ _ _ _ => (xW_k hW 3 _ _ _).trans rfl,
   fun _ _ _ _ _ _ => (xW_k hW 3 _ _ _).trans rfl⟩
theorem E_Room_trap (hW : ∀ M f h, W M f h = xbody V xF0 xG W M f h) :
    (∀ (x0 : Nat) (x1 x2 : Int32) (h : xH), W m_Room_trap (0, [some (.ref x0), some (.int x1), some (.int x2), none], []) h = xret W m_Room_trap 2 5 [some (.ref x0), some (.int x1), some (.int x2), none] [] (W m_Room_needIndex (0, [some (.int x1), some (.int (Int32.ofInt 4))], []) h)) ∧
    (∀ (x0 : Nat) (x1 x2 : Int32) (h : xH), W m_Room_trap (5, [some (.ref x0), some (.int x1), some (.int x2), none], []) h = xret W m_Room_trap 8 11 [some (.ref x0), some (.int x1), some (.int x2), none] [] (W m_Room_needBetween (0, [some (.int x2), some (.int (Int32.ofInt 1)), some (.int (Int32.ofInt 3))], []) h)) ∧
    (∀ (x0 : Nat) (x1 x2 : Int32) (h : xH), W m_Room_trap (11, [some (.ref x0), some (.int x1), some (.int x2), none], []) h = xpush W m_Room_trap 15 [some (.ref x0), some (.int x1), some (.int x2), none] [] h (xfld 0 2 (h.1 x0))) ∧
    (∀ (x0 y0 : Nat) (x1 x2 : Int32) (h : xH), W m_Room_trap (15, [some (.ref x0), some (.int x1), some (.int x2), none], [(.ref y0)]) h = xpush W m_Room_trap 17 [some (.ref x0), some (.int x1), some (.int x2), none] [] h (xldR (h.1 y0) x1)) ∧
    (∀ (x0 y0 : Nat) (x1 x2 : Int32) (h : xH), W m_Room_trap (17, [some (.ref x0), some (.int x1), some (.int x2), none], [(.ref y0)]) h = xret W m_Room_trap 19 22 [some (.ref x0), some (.int x1), some (.int x2), some (.ref y0)] [] (xrc 1 (h.1 y0) (W m_Job_isMade (0, [some (.ref y0)], []) h))) ∧
    (∀ (x0 x3 : Nat) (x1 x2 y0 : Int32) (h : xH), W m_Room_trap (22, [some (.ref x0), some (.int x1), some (.int x2), some (.ref x3)], [(.int y0)]) h = if y0 = (Int32.ofInt 0) then W m_Room_trap (32, [some (.ref x0), some (.int x1), some (.int x2), some (.ref x3)], []) h else W m_Room_trap (25, [some (.ref x0), some (.int x1), some (.int x2), some (.ref x3)], []) h) ∧
    (∀ (x0 x3 : Nat) (x1 x2 : Int32) (h : xH), W m_Room_trap (25, [some (.ref x0), some (.int x1), some (.int x2), some (.ref x3)], []) h = xret W m_Room_trap 26 29 [some (.ref x0), some (.int x1), some (.int x2), some (.ref x3)] [] (xrc 1 (h.1 x3) (W m_Job_isSpread (0, [some (.ref x3)], []) h))) ∧
    (∀ (x0 x3 : Nat) (x1 x2 y0 : Int32) (h : xH), W m_Room_trap (29, [some (.ref x0), some (.int x1), some (.int x2), some (.ref x3)], [(.int y0)]) h = if y0 = (Int32.ofInt 0) then W m_Room_trap (42, [some (.ref x0), some (.int x1), some (.int x2), some (.ref x3)], []) h else W m_Room_trap (32, [some (.ref x0), some (.int x1), some (.int x2), some (.ref x3)], []) h) ∧
    (∀ (x0 x3 : Nat) (x1 x2 : Int32) (h : xH), W m_Room_trap (32, [some (.ref x0), some (.int x1), some (.int x2), some (.ref x3)], []) h = some (.inr (10, h.2.1), xnew h (xO' 10 []) 6)) ∧
    (∀ (x0 x3 : Nat) (x1 x2 : Int32) (h : xH), W m_Room_trap (42, [some (.ref x0), some (.int x1), some (.int x2), some (.ref x3)], []) h = xpush W m_Room_trap 46 [some (.ref x0), some (.int x1), some (.int x2), some (.ref x3)] [] h (xfld 0 3 (h.1 x0))) ∧
    (∀ (x0 x3 y0 : Nat) (x1 x2 : Int32) (h : xH), W m_Room_trap (46, [some (.ref x0), some (.int x1), some (.int x2), some (.ref x3)], [(.ref y0)]) h = xret W m_Room_trap 48 51 [some (.ref x0), some (.int x1), some (.int x2), some (.ref x3)] [] (xrc 2 (h.1 y0) (W m_Spr_spread (0, [some (.ref y0), some (.ref x3), some (.int x2), none, none], []) h))) ∧
    (∀ (x0 x3 : Nat) (x1 x2 y0 : Int32) (h : xH), W m_Room_trap (51, [some (.ref x0), some (.int x1), some (.int x2), some (.ref x3)], [(.int y0)]) h = some (.inl (some (.int y0)), h)) :=
  ⟨fun _ _ _ _ => (xW_k hW 3 _ _ _).trans rfl,
   fun _ _ _ _ => (xW_k hW 4 _ _ _).trans rfl,
   fun _ _ _ _ => (xW_k hW 2 _ _ _).trans xq_fld,
   fun _ _ _ _ _ => (xW_k hW 2 _ _ _).trans xq_ldR,
   fun _ _ _ _ _ => (xW_k hW 3 _ _ _).trans xq_rc,
   fun _ _ _ _ _ _ => (xW_k hW 1 _ _ _).trans rfl,
   fun _ _ _ _ _ => (xW_k hW 2 _ _ _).trans xq_rc,
   fun _ _ _ _ _ _ => (xW_k hW 1 _ _ _).trans rfl,
   fun _ _ _ _ _ => (xW_k hW 1 _ _ _).trans rfl,
   fun _ _ _ _ _ => (xW_k hW 2 _ _ _).trans xq_fld,
   fun _ _ _ _ _ _ => (xW_k hW 3 _ _ _).trans xq_rc,
   fun _ _ _ _ _ _ => (xW_k hW 1 _ _ _).trans rfl⟩
theorem X_Room_trap : xhs m_Room_trap = [] := rfl
theorem E_Job_isSpread (hW : ∀ M f h, W M f h = xbody V xF0 xG W M f h) :
    (∀ (x0 : Nat) (h : xH), W m_Job_isSpread (0, [some (.ref x0)], []) h = xpush W m_Job_isSpread 4 [some (.ref x0)] [] h (xfld 1 4 (h.1 x0))) ∧
    (∀ (x0 : Nat) (y0 : Int32) (h : xH), W m_Job_isSpread (4, [some (.ref x0)], [(.int y0)]) h = xB (decide (y0 = 0 ∨ y0 = 1)) (some (.inl (some (.int y0)), h))) :=
  ⟨fun _ _ => (xW_k hW 2 _ _ _).trans xq_fld,
   fun _ _ _ => (xW_k hW 1 _ _ _).trans rfl⟩
theorem X_Job_isSpread : xhs m_Job_isSpread = [] := rfl
theorem E_Spr_spread (hW : ∀ M f h, W M f h = xbody V xF0 xG W M f h) :
    (∀ (x0 x1 : Nat) (x2 : Int32) (h : xH), W m_Spr_spread (0, [some (.ref x0), some (.ref x1), some (.int x2), none, none], []) h = xret W m_Spr_spread 2 5 [some (.ref x0), some (.ref x1), some (.int x2), none, none] [] (xrc 2 (h.1 x0) (W m_Spr_weigh (0, [some (.ref x0), some (.ref x1), none], []) h))) ∧
    (∀ (x0 x1 : Nat) (x2 : Int32) (h : xH), W m_Spr_spread (5, [some (.ref x0), some (.ref x1), some (.int x2), none, none], []) h = W m_Spr_spread (7, [some (.ref x0), some (.ref x1), some (.int x2), some (.int (Int32.ofInt 0)), none], []) h) ∧
    (∀ (x0 x1 : Nat) (x2 x3 : Int32) (h : xH), W m_Spr_spread (13, [some (.ref x0), some (.ref x1), some (.int x2), some (.int x3), none], []) h = xpush W m_Spr_spread 17 [some (.ref x0), some (.ref x1), some (.int x2), some (.int x3), none] [] h (xfld 2 2 (h.1 x0))) ∧
    (∀ (x0 x1 y0 : Nat) (x2 x3 : Int32) (h : xH), W m_Spr_spread (17, [some (.ref x0), some (.ref x1), some (.int x2), some (.int x3), none], [(.ref y0)]) h = xret W m_Spr_spread 20 23 [some (.ref x0), some (.ref x1), some (.int x2), some (.int x3), none] [(.int x3), (.ref y0)] (xrc 2 (h.1 x0) (W m_Spr_lighterShyOf (0, [some (.ref x0), some (.int x3), none, none, none], []) h))) ∧
    (∀ (x0 x1 y2 : Nat) (x2 x3 y1 : Int32) (y0 : Int64) (h : xH), W m_Spr_spread (23, [some (.ref x0), some (.ref x1), some (.int x2), some (.int x3), none], [(.long y0), (.int y1), (.ref y2)]) h = xthn W m_Spr_spread 24 [some (.ref x0), some (.ref x1), some (.int x2), some (.int x3), none] [] (xstL (h.1 y2) h y2 y1 y0)) ∧
    (∀ (x0 x1 : Nat) (x2 x3 : Int32) (h : xH), W m_Spr_spread (24, [some (.ref x0), some (.ref x1), some (.int x2), some (.int x3), none], []) h = W m_Spr_spread (7, [some (.ref x0), some (.ref x1), some (.int x2), some (.int (x3 + (Int32.ofInt 1))), none], []) h) ∧
    (∀ (x0 x1 : Nat) (x2 x3 : Int32) (h : xH), W m_Spr_spread (30, [some (.ref x0), some (.ref x1), some (.int x2), some (.int x3), none], []) h = W m_Spr_spread (32, [some (.ref x0), some (.ref x1), some (.int x2), some (.int (Int32.ofInt 0)), none], []) h) ∧
    (∀ (x0 x1 : Nat) (x2 x3 : Int32) (h : xH), W m_Spr_spread (39, [some (.ref x0), some (.ref x1), some (.int x2), some (.int x3), none], []) h = xpush W m_Spr_spread 43 [some (.ref x0), some (.ref x1), some (.int x2), some (.int x3), none] [] h (xfld 2 3 (h.1 x0))) ∧
    (∀ (x0 x1 y0 : Nat) (x2 x3 : Int32) (h : xH), W m_Spr_spread (43, [some (.ref x0), some (.ref x1), some (.int x2), some (.int x3), none], [(.ref y0)]) h = xret W m_Spr_spread 47 50 [some (.ref x0), some (.ref x1), some (.int x2), some (.int x3), none] [(.long 1), (.int x3), (.ref y0)] (xrc 1 (h.1 x1) (W m_Job_colourAt (0, [some (.ref x1), some (.int x3)], []) h))) ∧
    (∀ (x0 x1 y3 : Nat) (x2 x3 y0 y2 : Int32) (y1 : Int64) (h : xH), W m_Spr_spread (50, [some (.ref x0), some (.ref x1), some (.int x2), some (.int x3), none], [(.int y0), (.long y1), (.int y2), (.ref y3)]) h = xthn W m_Spr_spread 52 [some (.ref x0), some (.ref x1), some (.int x2), some (.int x3), none] [] (xstL (h.1 y3) h y3 y2 (y1 <<< (Int32.toInt64 y0 &&& 63)))) ∧
    (∀ (x0 x1 : Nat) (x2 x3 : Int32) (h : xH), W m_Spr_spread (52, [some (.ref x0), some (.ref x1), some (.int x2), some (.int x3), none], []) h = W m_Spr_spread (32, [some (.ref x0), some (.ref x1), some (.int x2), some (.int (x3 + (Int32.ofInt 1))), none], []) h) ∧
    (∀ (x0 x1 : Nat) (x2 x3 : Int32) (h : xH), W m_Spr_spread (58, [some (.ref x0), some (.ref x1), some (.int x2), some (.int x3), none], []) h = W m_Spr_spread (63, [some (.ref x0), some (.ref x1), some (.int x2), some (.int (Int32.ofInt 0)), some (.int (Int32.ofInt 1))], []) h) ∧
    (∀ (x0 x1 : Nat) (x2 x3 x4 : Int32) (h : xH), W m_Spr_spread (69, [some (.ref x0), some (.ref x1), some (.int x2), some (.int x3), some (.int x4)], []) h = xret W m_Spr_spread 70 73 [some (.ref x0), some (.ref x1), some (.int x2), some (.int x3), some (.int x4)] [] (xrc 2 (h.1 x0) (W m_Spr_widenAcross (0, [some (.ref x0), none, none, none, none, none, none], []) h))) ∧
    (∀ (x0 x1 : Nat) (x2 x3 x4 : Int32) (h : xH), W m_Spr_spread (73, [some (.ref x0), some (.ref x1), some (.int x2), some (.int x3), some (.int x4)], []) h = xret W m_Spr_spread 74 77 [some (.ref x0), some (.ref x1), some (.int x2), some (.int x3), some (.int x4)] [] (xrc 2 (h.1 x0) (W m_Spr_widenDown (0, [some (.ref x0), none, none, none, none, none], []) h))) ∧
    (∀ (x0 x1 : Nat) (x2 x3 x4 : Int32) (h : xH), W m_Spr_spread (77, [some (.ref x0), some (.ref x1), some (.int x2), some (.int x3), some (.int x4)], []) h = xret W m_Spr_spread 80 83 [some (.ref x0), some (.ref x1), some (.int x2), some (.int x3), some (.int x4)] [(.int x3)] (xrc 2 (h.1 x0) (W m_Spr_markReached (0, [some (.ref x0), some (.ref x1), none, none, none, none], []) h))) ∧
    (∀ (x0 x1 : Nat) (x2 x3 x4 y0 y1 : Int32) (h : xH), W m_Spr_spread (83, [some (.ref x0), some (.ref x1), some (.int x2), some (.int x3), some (.int x4)], [(.int y0), (.int y1)]) h = W m_Spr_spread (63, [some (.ref x0), some (.ref x1), some (.int x2), some (.int (y1 + y0)), some (.int (x4 + (Int32.ofInt 1)))], []) h) ∧
    (∀ (x0 x1 : Nat) (x2 x3 x4 : Int32) (h : xH), W m_Spr_spread (91, [some (.ref x0), some (.ref x1), some (.int x2), some (.int x3), some (.int x4)], []) h = xret W m_Spr_spread 92 95 [some (.ref x0), some (.ref x1), some (.int x2), some (.int x3), some (.int x4)] [] (xrc 1 (h.1 x1) (W m_Job_setSpread (0, [some (.ref x1)], []) h))) ∧
    (∀ (x0 x1 : Nat) (x2 x3 x4 : Int32) (h : xH), W m_Spr_spread (95, [some (.ref x0), some (.ref x1), some (.int x2), some (.int x3), some (.int x4)], []) h = some (.inl (some (.int x3)), h)) :=
  ⟨fun _ _ _ _ => (xW_k hW 3 _ _ _).trans xq_rc,
   fun _ _ _ _ => (xW_k hW 2 _ _ _).trans rfl,
   fun _ _ _ _ _ => (xW_k hW 2 _ _ _).trans xq_fld,
   fun _ _ _ _ _ _ => (xW_k hW 4 _ _ _).trans xq_rc,
   fun _ _ _ _ _ _ _ _ => (xW_k hW 1 _ _ _).trans xq_stL,
   fun _ _ _ _ _ => (xW_k hW 2 _ _ _).trans rfl,
   fun _ _ _ _ _ => (xW_k hW 2 _ _ _).trans rfl,
   fun _ _ _ _ _ => (xW_k hW 2 _ _ _).trans xq_fld,
   fun _ _ _ _ _ _ => (xW_k hW 5 _ _ _).trans xq_rc,
   fun _ _ _ _ _ _ _ _ _ => (xW_k hW 2 _ _ _).trans xq_stL,
   fun _ _ _ _ _ => (xW_k hW 2 _ _ _).trans rfl,
   fun _ _ _ _ _ => (xW_k hW 4 _ _ _).trans rfl,
   fun _ _ _ _ _ _ => (xW_k hW 2 _ _ _).trans xq_rc,
   fun _ _ _ _ _ _ => (xW_k hW 2 _ _ _).trans xq_rc,
   fun _ _ _ _ _ _ => (xW_k hW 4 _ _ _).trans xq_rc,
   fun _ _ _ _ _ _ _ _ => (xW_k hW 4 _ _ _).trans rfl,
   fun _ _ _ _ _ _ => (xW_k hW 2 _ _ _).trans xq_rc,
   fun _ _ _ _ _ _ => (xW_k hW 2 _ _ _).trans rfl⟩
theorem L_Spr_spread_7 (hW : ∀ M f h, W M f h = xbody V xF0 xG W M f h) :
    (∀ (x0 x1 : Nat) (x2 x3 : Int32) (h : xH), W m_Spr_spread (7, [some (.ref x0), some (.ref x1), some (.int x2), some (.int x3), none], []) h = if (Int32.ofInt 64) ≤ x3 then W m_Spr_spread (30, [some (.ref x0), some (.ref x1), some (.int x2), some (.int x3), none], []) h else W m_Spr_spread (13, [some (.ref x0), some (.ref x1), some (.int x2), some (.int x3), none], []) h) :=
  fun _ _ _ _ _ => (xW_k hW 3 _ _ _).trans rfl
theorem L_Spr_spread_32 (hW : ∀ M f h, W M f h = xbody V xF0 xG W M f h) :
    (∀ (x0 x1 : Nat) (x2 x3 : Int32) (h : xH), W m_Spr_spread (32, [some (.ref x0), some (.ref x1), some (.int x2), some (.int x3), none], []) h = if (Int32.ofInt 3072) ≤ x3 then W m_Spr_spread (58, [some (.ref x0), some (.ref x1), some (.int x2), some (.int x3), none], []) h else W m_Spr_spread (39, [some (.ref x0), some (.ref x1), some (.int x2), some (.int x3), none], []) h) :=
  fun _ _ _ _ _ => (xW_k hW 3 _ _ _).trans rfl
theorem L_Spr_spread_63 (hW : ∀ M f h, W M f h = xbody V xF0 xG W M f h) :
    (∀ (x0 x1 : Nat) (x2 x3 x4 : Int32) (h : xH), W m_Spr_spread (63, [some (.ref x0), some (.ref x1), some (.int x2), some (.int x3), some (.int x4)], []) h = if x2 < x4 then W m_Spr_spread (91, [some (.ref x0), some (.ref x1), some (.int x2), some (.int x3), some (.int x4)], []) h else W m_Spr_spread (69, [some (.ref x0), some (.ref x1), some (.int x2), some (.int x3), some (.int x4)], []) h) :=
  fun _ _ _ _ _ _ => (xW_k hW 3 _ _ _).trans rfl
theorem X_Spr_spread : xhs m_Spr_spread = [] := rfl
theorem E_Spr_weigh (hW : ∀ M f h, W M f h = xbody V xF0 xG W M f h) :
    (∀ (x0 x1 : Nat) (h : xH), W m_Spr_weigh (0, [some (.ref x0), some (.ref x1), none], []) h = W m_Spr_weigh (2, [some (.ref x0), some (.ref x1), some (.int (Int32.ofInt 0))], []) h) ∧
    (∀ (x0 x1 : Nat) (x2 : Int32) (h : xH), W m_Spr_weigh (8, [some (.ref x0), some (.ref x1), some (.int x2)], []) h = xpush W m_Spr_weigh 12 [some (.ref x0), some (.ref x1), some (.int x2)] [] h (xfld 2 0 (h.1 x0))) ∧
    (∀ (x0 x1 y0 : Nat) (x2 : Int32) (h : xH), W m_Spr_weigh (12, [some (.ref x0), some (.ref x1), some (.int x2)], [(.ref y0)]) h = xret W m_Spr_weigh 15 18 [some (.ref x0), some (.ref x1), some (.int x2)] [(.int x2), (.ref y0)] (xrc 1 (h.1 x1) (W m_Job_inksOf (0, [some (.ref x1), some (.int x2), none, none], []) h))) ∧
    (∀ (x0 x1 y2 : Nat) (x2 y0 y1 : Int32) (h : xH), W m_Spr_weigh (18, [some (.ref x0), some (.ref x1), some (.int x2)], [(.int y0), (.int y1), (.ref y2)]) h = xthn W m_Spr_weigh 19 [some (.ref x0), some (.ref x1), some (.int x2)] [] (xstI (h.1 y2) h y2 y1 y0)) ∧
    (∀ (x0 x1 : Nat) (x2 : Int32) (h : xH), W m_Spr_weigh (19, [some (.ref x0), some (.ref x1), some (.int x2)], []) h = xpush W m_Spr_weigh 23 [some (.ref x0), some (.ref x1), some (.int x2)] [] h (xfld 2 1 (h.1 x0))) ∧
    (∀ (x0 x1 y0 : Nat) (x2 : Int32) (h : xH), W m_Spr_weigh (23, [some (.ref x0), some (.ref x1), some (.int x2)], [(.ref y0)]) h = xret W m_Spr_weigh 26 29 [some (.ref x0), some (.ref x1), some (.int x2)] [(.int x2), (.ref y0)] (xrc 1 (h.1 x1) (W m_Job_weightOf (0, [some (.ref x1), some (.int x2), none, none], []) h))) ∧
    (∀ (x0 x1 y2 : Nat) (x2 y0 y1 : Int32) (h : xH), W m_Spr_weigh (29, [some (.ref x0), some (.ref x1), some (.int x2)], [(.int y0), (.int y1), (.ref y2)]) h = xthn W m_Spr_weigh 30 [some (.ref x0), some (.ref x1), some (.int x2)] [] (xstI (h.1 y2) h y2 y1 y0)) ∧
    (∀ (x0 x1 : Nat) (x2 : Int32) (h : xH), W m_Spr_weigh (30, [some (.ref x0), some (.ref x1), some (.int x2)], []) h = W m_Spr_weigh (2, [some (.ref x0), some (.ref x1), some (.int (x2 + (Int32.ofInt 1)))], []) h) ∧
    (∀ (x0 x1 : Nat) (x2 : Int32) (h : xH), W m_Spr_weigh (36, [some (.ref x0), some (.ref x1), some (.int x2)], []) h = some (.inl none, h)) :=
  ⟨fun _ _ _ => (xW_k hW 2 _ _ _).trans rfl,
   fun _ _ _ _ => (xW_k hW 2 _ _ _).trans xq_fld,
   fun _ _ _ _ _ => (xW_k hW 4 _ _ _).trans xq_rc,
   fun _ _ _ _ _ _ _ => (xW_k hW 1 _ _ _).trans xq_stI,
   fun _ _ _ _ => (xW_k hW 2 _ _ _).trans xq_fld,
   fun _ _ _ _ _ => (xW_k hW 4 _ _ _).trans xq_rc,
   fun _ _ _ _ _ _ _ => (xW_k hW 1 _ _ _).trans xq_stI,
   fun _ _ _ _ => (xW_k hW 2 _ _ _).trans rfl,
   fun _ _ _ _ => (xW_k hW 1 _ _ _).trans rfl⟩
theorem L_Spr_weigh_2 (hW : ∀ M f h, W M f h = xbody V xF0 xG W M f h) :
    (∀ (x0 x1 : Nat) (x2 : Int32) (h : xH), W m_Spr_weigh (2, [some (.ref x0), some (.ref x1), some (.int x2)], []) h = if (Int32.ofInt 64) ≤ x2 then W m_Spr_weigh (36, [some (.ref x0), some (.ref x1), some (.int x2)], []) h else W m_Spr_weigh (8, [some (.ref x0), some (.ref x1), some (.int x2)], []) h) :=
  fun _ _ _ _ => (xW_k hW 3 _ _ _).trans rfl
theorem X_Spr_weigh : xhs m_Spr_weigh = [] := rfl
end XEQ
