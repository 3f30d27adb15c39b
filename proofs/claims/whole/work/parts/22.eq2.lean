section XEQ
variable {V : Nat → Value} {W : xM → xF → xH → Option xR}
theorem E_Job_inksOf (hW : ∀ M f h, W M f h = xbody V xF0 xG W M f h) :
    (∀ (x0 : Nat) (x1 : Int32) (h : xH), W m_Job_inksOf (0, [some (.ref x0), some (.int x1), none, none], []) h = W m_Job_inksOf (4, [some (.ref x0), some (.int x1), some (.int (Int32.ofInt 0)), some (.int (Int32.ofInt 0))], []) h) ∧
    (∀ (x0 : Nat) (x1 x2 x3 : Int32) (h : xH), W m_Job_inksOf (10, [some (.ref x0), some (.int x1), some (.int x2), some (.int x3)], []) h = xpush W m_Job_inksOf 14 [some (.ref x0), some (.int x1), some (.int x2), some (.int x3)] [] h (xfld 1 2 (h.1 x0))) ∧
    (∀ (x0 y0 : Nat) (x1 x2 x3 : Int32) (h : xH), W m_Job_inksOf (14, [some (.ref x0), some (.int x1), some (.int x2), some (.int x3)], [(.ref y0)]) h = xpush W m_Job_inksOf 21 [some (.ref x0), some (.int x1), some (.int x2), some (.int x3)] [] h (xldI (h.1 y0) ((x1 * (Int32.ofInt 8)) + x3))) ∧
    (∀ (x0 : Nat) (x1 x2 x3 y0 : Int32) (h : xH), W m_Job_inksOf (21, [some (.ref x0), some (.int x1), some (.int x2), some (.int x3)], [(.int y0)]) h = if y0 < (Int32.ofInt 64) then W m_Job_inksOf (32, [some (.ref x0), some (.int x1), some (.int x2), some (.int x3)], []) h else W m_Job_inksOf (26, [some (.ref x0), some (.int x1), some (.int x2), some (.int x3)], []) h) ∧
    (∀ (x0 : Nat) (x1 x2 x3 : Int32) (h : xH), W m_Job_inksOf (26, [some (.ref x0), some (.int x1), some (.int x2), some (.int x3)], []) h = W m_Job_inksOf (4, [some (.ref x0), some (.int x1), some (.int (x2 ||| ((Int32.ofInt 1) <<< (x3 &&& 31)))), some (.int (x3 + (Int32.ofInt 1)))], []) h) ∧
    (∀ (x0 : Nat) (x1 x2 x3 : Int32) (h : xH), W m_Job_inksOf (32, [some (.ref x0), some (.int x1), some (.int x2), some (.int x3)], []) h = W m_Job_inksOf (4, [some (.ref x0), some (.int x1), some (.int x2), some (.int (x3 + (Int32.ofInt 1)))], []) h) ∧
    (∀ (x0 : Nat) (x1 x2 x3 : Int32) (h : xH), W m_Job_inksOf (38, [some (.ref x0), some (.int x1), some (.int x2), some (.int x3)], []) h = some (.inl (some (.int x2)), h)) :=
  ⟨fun _ _ _ => (xW_k hW 4 _ _ _).trans rfl,
   fun _ _ _ _ _ => (xW_k hW 2 _ _ _).trans xq_fld,
   fun _ _ _ _ _ _ => (xW_k hW 6 _ _ _).trans xq_ldI,
   fun _ _ _ _ _ _ => (xW_k hW 2 _ _ _).trans rfl,
   fun _ _ _ _ _ => (xW_k hW 8 _ _ _).trans rfl,
   fun _ _ _ _ _ => (xW_k hW 2 _ _ _).trans rfl,
   fun _ _ _ _ _ => (xW_k hW 2 _ _ _).trans rfl⟩
theorem L_Job_inksOf_4 (hW : ∀ M f h, W M f h = xbody V xF0 xG W M f h) :
    (∀ (x0 : Nat) (x1 x2 x3 : Int32) (h : xH), W m_Job_inksOf (4, [some (.ref x0), some (.int x1), some (.int x2), some (.int x3)], []) h = if (Int32.ofInt 8) ≤ x3 then W m_Job_inksOf (38, [some (.ref x0), some (.int x1), some (.int x2), some (.int x3)], []) h else W m_Job_inksOf (10, [some (.ref x0), some (.int x1), some (.int x2), some (.int x3)], []) h) :=
  fun _ _ _ _ _ => (xW_k hW 3 _ _ _).trans rfl
theorem X_Job_inksOf : xhs m_Job_inksOf = [] := rfl
theorem E_Job_weightOf (hW : ∀ M f h, W M f h = xbody V xF0 xG W M f h) :
    (∀ (x0 : Nat) (x1 : Int32) (h : xH), W m_Job_weightOf (0, [some (.ref x0), some (.int x1), none, none], []) h = W m_Job_weightOf (4, [some (.ref x0), some (.int x1), some (.int (Int32.ofInt 0)), some (.int (Int32.ofInt 0))], []) h) ∧
    (∀ (x0 : Nat) (x1 x2 x3 : Int32) (h : xH), W m_Job_weightOf (10, [some (.ref x0), some (.int x1), some (.int x2), some (.int x3)], []) h = xpush W m_Job_weightOf 15 [some (.ref x0), some (.int x1), some (.int x2), some (.int x3)] [(.int x2)] h (xfld 1 2 (h.1 x0))) ∧
    (∀ (x0 y0 : Nat) (x1 x2 x3 y1 : Int32) (h : xH), W m_Job_weightOf (15, [some (.ref x0), some (.int x1), some (.int x2), some (.int x3)], [(.ref y0), (.int y1)]) h = xpush W m_Job_weightOf 22 [some (.ref x0), some (.int x1), some (.int x2), some (.int x3)] [(.int y1)] h (xldI (h.1 y0) ((x1 * (Int32.ofInt 8)) + x3))) ∧
    (∀ (x0 : Nat) (x1 x2 x3 y0 y1 : Int32) (h : xH), W m_Job_weightOf (22, [some (.ref x0), some (.int x1), some (.int x2), some (.int x3)], [(.int y0), (.int y1)]) h = W m_Job_weightOf (25, [some (.ref x0), some (.int x1), some (.int x2), some (.int x3)], V 0 :: [(.int y0), (.int y1)]) h) ∧
    (∀ (x0 y0 : Nat) (x1 x2 x3 y1 y2 : Int32) (h : xH), W m_Job_weightOf (25, [some (.ref x0), some (.int x1), some (.int x2), some (.int x3)], [(.ref y0), (.int y1), (.int y2)]) h = xpush W m_Job_weightOf 27 [some (.ref x0), some (.int x1), some (.int x2), some (.int x3)] [(.int y1), (.int y2)] h (xldI (h.1 y0) x3)) ∧
    (∀ (x0 : Nat) (x1 x2 x3 y0 y1 y2 : Int32) (h : xH), W m_Job_weightOf (27, [some (.ref x0), some (.int x1), some (.int x2), some (.int x3)], [(.int y0), (.int y1), (.int y2)]) h = W m_Job_weightOf (4, [some (.ref x0), some (.int x1), some (.int (y2 + (y1 * y0))), some (.int (x3 + (Int32.ofInt 1)))], []) h) ∧
    (∀ (x0 : Nat) (x1 x2 x3 : Int32) (h : xH), W m_Job_weightOf (36, [some (.ref x0), some (.int x1), some (.int x2), some (.int x3)], []) h = some (.inl (some (.int x2)), h)) :=
  ⟨fun _ _ _ => (xW_k hW 4 _ _ _).trans rfl,
   fun _ _ _ _ _ => (xW_k hW 3 _ _ _).trans xq_fld,
   fun _ _ _ _ _ _ _ => (xW_k hW 6 _ _ _).trans xq_ldI,
   fun _ _ _ _ _ _ _ => (xW_k hW 1 _ _ _).trans rfl,
   fun _ _ _ _ _ _ _ _ => (xW_k hW 2 _ _ _).trans xq_ldI,
   fun _ _ _ _ _ _ _ _ => (xW_k hW 5 _ _ _).trans rfl,
   fun _ _ _ _ _ => (xW_k hW 2 _ _ _).trans rfl⟩
theorem L_Job_weightOf_4 (hW : ∀ M f h, W M f h = xbody V xF0 xG W M f h) :
    (∀ (x0 : Nat) (x1 x2 x3 : Int32) (h : xH), W m_Job_weightOf (4, [some (.ref x0), some (.int x1), some (.int x2), some (.int x3)], []) h = if (Int32.ofInt 8) ≤ x3 then W m_Job_weightOf (36, [some (.ref x0), some (.int x1), some (.int x2), some (.int x3)], []) h else W m_Job_weightOf (10, [some (.ref x0), some (.int x1), some (.int x2), some (.int x3)], []) h) :=
  fun _ _ _ _ _ => (xW_k hW 3 _ _ _).trans rfl
theorem X_Job_weightOf : xhs m_Job_weightOf = [] := rfl
theorem E_Spr_lighterShyOf (hW : ∀ M f h, W M f h = xbody V xF0 xG W M f h) :
    (∀ (x0 : Nat) (x1 : Int32) (h : xH), W m_Spr_lighterShyOf (0, [some (.ref x0), some (.int x1), none, none, none], []) h = W m_Spr_lighterShyOf (5, [some (.ref x0), some (.int x1), some (.long 0), none, some (.int (Int32.ofInt 0))], []) h) ∧
    (∀ (x0 : Nat) (x1 x4 : Int32) (x2 : Int64) (h : xH), W m_Spr_lighterShyOf (12, [some (.ref x0), some (.int x1), some (.long x2), none, some (.int x4)], []) h = xret W m_Spr_lighterShyOf 16 19 [some (.ref x0), some (.int x1), some (.long x2), none, some (.int x4)] [] (xrc 2 (h.1 x0) (W m_Spr_isShy (0, [some (.ref x0), some (.int x1), some (.int x4)], []) h))) ∧
    (∀ (x0 : Nat) (x1 x4 y0 : Int32) (x2 : Int64) (h : xH), W m_Spr_lighterShyOf (19, [some (.ref x0), some (.int x1), some (.long x2), none, some (.int x4)], [(.int y0)]) h = if y0 = (Int32.ofInt 0) then W m_Spr_lighterShyOf (39, [some (.ref x0), some (.int x1), some (.long x2), none, some (.int x4)], []) h else W m_Spr_lighterShyOf (22, [some (.ref x0), some (.int x1), some (.long x2), none, some (.int x4)], []) h) ∧
    (∀ (x0 : Nat) (x1 x4 : Int32) (x2 : Int64) (h : xH), W m_Spr_lighterShyOf (22, [some (.ref x0), some (.int x1), some (.long x2), none, some (.int x4)], []) h = xret W m_Spr_lighterShyOf 26 29 [some (.ref x0), some (.int x1), some (.long x2), none, some (.int x4)] [] (xrc 2 (h.1 x0) (W m_Spr_isLighter (0, [some (.ref x0), some (.int x4), some (.int x1)], []) h))) ∧
    (∀ (x0 : Nat) (x1 x4 y0 : Int32) (x2 : Int64) (h : xH), W m_Spr_lighterShyOf (29, [some (.ref x0), some (.int x1), some (.long x2), none, some (.int x4)], [(.int y0)]) h = if y0 = (Int32.ofInt 0) then W m_Spr_lighterShyOf (39, [some (.ref x0), some (.int x1), some (.long x2), none, some (.int x4)], []) h else W m_Spr_lighterShyOf (32, [some (.ref x0), some (.int x1), some (.long x2), none, some (.int x4)], []) h) ∧
    (∀ (x0 : Nat) (x1 x4 : Int32) (x2 : Int64) (h : xH), W m_Spr_lighterShyOf (32, [some (.ref x0), some (.int x1), some (.long x2), none, some (.int x4)], []) h = W m_Spr_lighterShyOf (5, [some (.ref x0), some (.int x1), some (.long (x2 ||| (1 <<< (Int32.toInt64 x4 &&& 63)))), none, some (.int (x4 + (Int32.ofInt 1)))], []) h) ∧
    (∀ (x0 : Nat) (x1 x4 : Int32) (x2 : Int64) (h : xH), W m_Spr_lighterShyOf (39, [some (.ref x0), some (.int x1), some (.long x2), none, some (.int x4)], []) h = W m_Spr_lighterShyOf (5, [some (.ref x0), some (.int x1), some (.long x2), none, some (.int (x4 + (Int32.ofInt 1)))], []) h) ∧
    (∀ (x0 : Nat) (x1 x4 : Int32) (x2 : Int64) (h : xH), W m_Spr_lighterShyOf (45, [some (.ref x0), some (.int x1), some (.long x2), none, some (.int x4)], []) h = some (.inl (some (.long x2)), h)) :=
  ⟨fun _ _ _ => (xW_k hW 4 _ _ _).trans rfl,
   fun _ _ _ _ _ => (xW_k hW 4 _ _ _).trans xq_rc,
   fun _ _ _ _ _ _ => (xW_k hW 1 _ _ _).trans rfl,
   fun _ _ _ _ _ => (xW_k hW 4 _ _ _).trans xq_rc,
   fun _ _ _ _ _ _ => (xW_k hW 1 _ _ _).trans rfl,
   fun _ _ _ _ _ => (xW_k hW 8 _ _ _).trans rfl,
   fun _ _ _ _ _ => (xW_k hW 2 _ _ _).trans rfl,
   fun _ _ _ _ _ => (xW_k hW 2 _ _ _).trans rfl⟩
theorem L_Spr_lighterShyOf_5 (hW : ∀ M f h, W M f h = xbody V xF0 xG W M f h) :
    (∀ (x0 : Nat) (x1 x4 : Int32) (x2 : Int64) (h : xH), W m_Spr_lighterShyOf (5, [some (.ref x0), some (.int x1), some (.long x2), none, some (.int x4)], []) h = if (Int32.ofInt 64) ≤ x4 then W m_Spr_lighterShyOf (45, [some (.ref x0), some (.int x1), some (.long x2), none, some (.int x4)], []) h else W m_Spr_lighterShyOf (12, [some (.ref x0), some (.int x1), some (.long x2), none, some (.int x4)], []) h) :=
  fun _ _ _ _ _ => (xW_k hW 3 _ _ _).trans rfl
theorem X_Spr_lighterShyOf : xhs m_Spr_lighterShyOf = [] := rfl
theorem E_Spr_isShy (hW : ∀ M f h, W M f h = xbody V xF0 xG W M f h) :
    (∀ (x0 : Nat) (x1 x2 : Int32) (h : xH), W m_Spr_isShy (0, [some (.ref x0), some (.int x1), some (.int x2)], []) h = xpush W m_Spr_isShy 4 [some (.ref x0), some (.int x1), some (.int x2)] [] h (xfld 2 0 (h.1 x0))) ∧
    (∀ (x0 y0 : Nat) (x1 x2 : Int32) (h : xH), W m_Spr_isShy (4, [some (.ref x0), some (.int x1), some (.int x2)], [(.ref y0)]) h = xpush W m_Spr_isShy 6 [some (.ref x0), some (.int x1), some (.int x2)] [] h (xldI (h.1 y0) x1)) ∧
    (∀ (x0 : Nat) (x1 x2 y0 : Int32) (h : xH), W m_Spr_isShy (6, [some (.ref x0), some (.int x1), some (.int x2)], [(.int y0)]) h = if y0 = (Int32.ofInt 0) then W m_Spr_isShy (38, [some (.ref x0), some (.int x1), some (.int x2)], []) h else W m_Spr_isShy (9, [some (.ref x0), some (.int x1), some (.int x2)], []) h) ∧
    (∀ (x0 : Nat) (x1 x2 : Int32) (h : xH), W m_Spr_isShy (9, [some (.ref x0), some (.int x1), some (.int x2)], []) h = xpush W m_Spr_isShy 13 [some (.ref x0), some (.int x1), some (.int x2)] [] h (xfld 2 0 (h.1 x0))) ∧
    (∀ (x0 y0 : Nat) (x1 x2 : Int32) (h : xH), W m_Spr_isShy (13, [some (.ref x0), some (.int x1), some (.int x2)], [(.ref y0)]) h = xpush W m_Spr_isShy 15 [some (.ref x0), some (.int x1), some (.int x2)] [] h (xldI (h.1 y0) x2)) ∧
    (∀ (x0 : Nat) (x1 x2 y0 : Int32) (h : xH), W m_Spr_isShy (15, [some (.ref x0), some (.int x1), some (.int x2)], [(.int y0)]) h = if y0 = (Int32.ofInt 0) then W m_Spr_isShy (38, [some (.ref x0), some (.int x1), some (.int x2)], []) h else W m_Spr_isShy (18, [some (.ref x0), some (.int x1), some (.int x2)], []) h) ∧
    (∀ (x0 : Nat) (x1 x2 : Int32) (h : xH), W m_Spr_isShy (18, [some (.ref x0), some (.int x1), some (.int x2)], []) h = xpush W m_Spr_isShy 22 [some (.ref x0), some (.int x1), some (.int x2)] [] h (xfld 2 0 (h.1 x0))) ∧
    (∀ (x0 y0 : Nat) (x1 x2 : Int32) (h : xH), W m_Spr_isShy (22, [some (.ref x0), some (.int x1), some (.int x2)], [(.ref y0)]) h = xpush W m_Spr_isShy 24 [some (.ref x0), some (.int x1), some (.int x2)] [] h (xldI (h.1 y0) x1)) ∧
    (∀ (x0 : Nat) (x1 x2 y0 : Int32) (h : xH), W m_Spr_isShy (24, [some (.ref x0), some (.int x1), some (.int x2)], [(.int y0)]) h = xpush W m_Spr_isShy 28 [some (.ref x0), some (.int x1), some (.int x2)] [(.int y0)] h (xfld 2 0 (h.1 x0))) ∧
    (∀ (x0 y0 : Nat) (x1 x2 y1 : Int32) (h : xH), W m_Spr_isShy (28, [some (.ref x0), some (.int x1), some (.int x2)], [(.ref y0), (.int y1)]) h = xpush W m_Spr_isShy 30 [some (.ref x0), some (.int x1), some (.int x2)] [(.int y1)] h (xldI (h.1 y0) x2)) ∧
    (∀ (x0 : Nat) (x1 x2 y0 y1 : Int32) (h : xH), W m_Spr_isShy (30, [some (.ref x0), some (.int x1), some (.int x2)], [(.int y0), (.int y1)]) h = if (y1 &&& y0) = (Int32.ofInt 0) then W m_Spr_isShy (34, [some (.ref x0), some (.int x1), some (.int x2)], []) h else W m_Spr_isShy (38, [some (.ref x0), some (.int x1), some (.int x2)], []) h) ∧
    (∀ (x0 : Nat) (x1 x2 : Int32) (h : xH), W m_Spr_isShy (34, [some (.ref x0), some (.int x1), some (.int x2)], []) h = some (.inl (some (.int (Int32.ofInt 1))), h)) ∧
    (∀ (x0 : Nat) (x1 x2 : Int32) (h : xH), W m_Spr_isShy (38, [some (.ref x0), some (.int x1), some (.int x2)], []) h = some (.inl (some (.int (Int32.ofInt 0))), h)) :=
  ⟨fun _ _ _ _ => (xW_k hW 2 _ _ _).trans xq_fld,
   fun _ _ _ _ _ => (xW_k hW 2 _ _ _).trans xq_ldI,
   fun _ _ _ _ _ => (xW_k hW 1 _ _ _).trans rfl,
   fun _ _ _ _ => (xW_k hW 2 _ _ _).trans xq_fld,
   fun _ _ _ _ _ => (xW_k hW 2 _ _ _).trans xq_ldI,
   fun _ _ _ _ _ => (xW_k hW 1 _ _ _).trans rfl,
   fun _ _ _ _ => (xW_k hW 2 _ _ _).trans xq_fld,
   fun _ _ _ _ _ => (xW_k hW 2 _ _ _).trans xq_ldI,
   fun _ _ _ _ _ => (xW_k hW 2 _ _ _).trans xq_fld,
   fun _ _ _ _ _ _ => (xW_k hW 2 _ _ _).trans xq_ldI,
   fun _ _ _ _ _ _ => (xW_k hW 2 _ _ _).trans rfl,
   fun _ _ _ _ => (xW_k hW 3 _ _ _).trans rfl,
   fun _ _ _ _ => (xW_k hW 2 _ _ _).trans rfl⟩
theorem X_Spr_isShy : xhs m_Spr_isShy = [] := rfl
theorem E_Spr_isLighter (hW : ∀ M f h, W M f h = xbody V xF0 xG W M f h) :
    (∀ (x0 : Nat) (x1 x2 : Int32) (h : xH), W m_Spr_isLighter (0, [some (.ref x0), some (.int x1), some (.int x2)], []) h = xpush W m_Spr_isLighter 4 [some (.ref x0), some (.int x1), some (.int x2)] [] h (xfld 2 1 (h.1 x0))) ∧
    (∀ (x0 y0 : Nat) (x1 x2 : Int32) (h : xH), W m_Spr_isLighter (4, [some (.ref x0), some (.int x1), some (.int x2)], [(.ref y0)]) h = xpush W m_Spr_isLighter 6 [some (.ref x0), some (.int x1), some (.int x2)] [] h (xldI (h.1 y0) x1)) ∧
    (∀ (x0 : Nat) (x1 x2 y0 : Int32) (h : xH), W m_Spr_isLighter (6, [some (.ref x0), some (.int x1), some (.int x2)], [(.int y0)]) h = xpush W m_Spr_isLighter 10 [some (.ref x0), some (.int x1), some (.int x2)] [(.int y0)] h (xfld 2 1 (h.1 x0))) ∧
    (∀ (x0 y0 : Nat) (x1 x2 y1 : Int32) (h : xH), W m_Spr_isLighter (10, [some (.ref x0), some (.int x1), some (.int x2)], [(.ref y0), (.int y1)]) h = xpush W m_Spr_isLighter 12 [some (.ref x0), some (.int x1), some (.int x2)] [(.int y1)] h (xldI (h.1 y0) x2)) ∧
    (∀ (x0 : Nat) (x1 x2 y0 y1 : Int32) (h : xH), W m_Spr_isLighter (12, [some (.ref x0), some (.int x1), some (.int x2)], [(.int y0), (.int y1)]) h = if y1 < y0 then W m_Spr_isLighter (35, [some (.ref x0), some (.int x1), some (.int x2)], []) h else W m_Spr_isLighter (15, [some (.ref x0), some (.int x1), some (.int x2)], []) h) ∧
    (∀ (x0 : Nat) (x1 x2 : Int32) (h : xH), W m_Spr_isLighter (15, [some (.ref x0), some (.int x1), some (.int x2)], []) h = xpush W m_Spr_isLighter 19 [some (.ref x0), some (.int x1), some (.int x2)] [] h (xfld 2 1 (h.1 x0))) ∧
    (∀ (x0 y0 : Nat) (x1 x2 : Int32) (h : xH), W m_Spr_isLighter (19, [some (.ref x0), some (.int x1), some (.int x2)], [(.ref y0)]) h = xpush W m_Spr_isLighter 21 [some (.ref x0), some (.int x1), some (.int x2)] [] h (xldI (h.1 y0) x1)) ∧
    (∀ (x0 : Nat) (x1 x2 y0 : Int32) (h : xH), W m_Spr_isLighter (21, [some (.ref x0), some (.int x1), some (.int x2)], [(.int y0)]) h = xpush W m_Spr_isLighter 25 [some (.ref x0), some (.int x1), some (.int x2)] [(.int y0)] h (xfld 2 1 (h.1 x0))) ∧
    (∀ (x0 y0 : Nat) (x1 x2 y1 : Int32) (h : xH), W m_Spr_isLighter (25, [some (.ref x0), some (.int x1), some (.int x2)], [(.ref y0), (.int y1)]) h = xpush W m_Spr_isLighter 27 [some (.ref x0), some (.int x1), some (.int x2)] [(.int y1)] h (xldI (h.1 y0) x2)) ∧
    (∀ (x0 : Nat) (x1 x2 y0 y1 : Int32) (h : xH), W m_Spr_isLighter (27, [some (.ref x0), some (.int x1), some (.int x2)], [(.int y0), (.int y1)]) h = if y1 = y0 then W m_Spr_isLighter (30, [some (.ref x0), some (.int x1), some (.int x2)], []) h else W m_Spr_isLighter (39, [some (.ref x0), some (.int x1), some (.int x2)], []) h) ∧
    (∀ (x0 : Nat) (x1 x2 : Int32) (h : xH), W m_Spr_isLighter (30, [some (.ref x0), some (.int x1), some (.int x2)], []) h = if x2 ≤ x1 then W m_Spr_isLighter (39, [some (.ref x0), some (.int x1), some (.int x2)], []) h else W m_Spr_isLighter (35, [some (.ref x0), some (.int x1), some (.int x2)], []) h) ∧
    (∀ (x0 : Nat) (x1 x2 : Int32) (h : xH), W m_Spr_isLighter (35, [some (.ref x0), some (.int x1), some (.int x2)], []) h = some (.inl (some (.int (Int32.ofInt 1))), h)) ∧
    (∀ (x0 : Nat) (x1 x2 : Int32) (h : xH), W m_Spr_isLighter (39, [some (.ref x0), some (.int x1), some (.int x2)], []) h = some (.inl (some (.int (Int32.ofInt 0))), h)) :=
  ⟨fun _ _ _ _ => (xW_k hW 2 _ _ _).trans xq_fld,
   fun _ _ _ _ _ => (xW_k hW 2 _ _ _).trans xq_ldI,
   fun _ _ _ _ _ => (xW_k hW 2 _ _ _).trans xq_fld,
   fun _ _ _ _ _ _ => (xW_k hW 2 _ _ _).trans xq_ldI,
   fun _ _ _ _ _ _ => (xW_k hW 1 _ _ _).trans rfl,
   fun _ _ _ _ => (xW_k hW 2 _ _ _).trans xq_fld,
   fun _ _ _ _ _ => (xW_k hW 2 _ _ _).trans xq_ldI,
   fun _ _ _ _ _ => (xW_k hW 2 _ _ _).trans xq_fld,
   fun _ _ _ _ _ _ => (xW_k hW 2 _ _ _).trans xq_ldI,
   fun _ _ _ _ _ _ => (xW_k hW 1 _ _ _).trans rfl,
   fun _ _ _ _ => (xW_k hW 3 _ _ _).trans rfl,
   fun _ _ _ _ => (xW_k hW 3 _ _ _).trans rfl,
   fun _ _ _ _ => (xW_k hW 2 _ _ _).trans rfl⟩
theorem X_Spr_isLighter : xhs m_Spr_isLighter = [] := rfl
theorem E_Job_colourAt (hW : ∀ M f h, W M f h = xbody V xF0 xG W M f h) :
    (∀ (x0 : Nat) (x1 : Int32) (h : xH), W m_Job_colourAt (0, [some (.ref x0), some (.int x1)], []) h = xpush W m_Job_colourAt 4 [some (.ref x0), some (.int x1)] [] h (xfld 1 0 (h.1 x0))) ∧
    (∀ (x0 y0 : Nat) (x1 : Int32) (h : xH), W m_Job_colourAt (4, [some (.ref x0), some (.int x1)], [(.ref y0)]) h = xpush W m_Job_colourAt 6 [some (.ref x0), some (.int x1)] [] h (xldI (h.1 y0) x1)) ∧
    (∀ (x0 : Nat) (x1 y0 : Int32) (h : xH), W m_Job_colourAt (6, [some (.ref x0), some (.int x1)], [(.int y0)]) h = some (.inl (some (.int y0)), h)) :=
  ⟨fun _ _ _ => (xW_k hW 2 _ _ _).trans xq_fld,
   fun _ _ _ _ => (xW_k hW 2 _ _ _).trans xq_ldI,
   fun _ _ _ _ => (xW_k hW 1 _ _ _).trans rfl⟩
theorem X_Job_colourAt : xhs m_Job_colourAt = [] := rfl
theorem E_Spr_widenAcross (hW : ∀ M f h, W M f h = xbody V xF0 xG W M f h) :
    (∀ (x0 : Nat) (h : xH), W m_Spr_widenAcross (0, [some (.ref x0), none, none, none, none, none, none], []) h = W m_Spr_widenAcross (2, [some (.ref x0), some (.int (Int32.ofInt 0)), none, none, none, none, none], []) h) ∧
    (∀ (x0 : Nat) (x1 : Int32) (x2 x3 x5 : Option Value) (h : xH), W m_Spr_widenAcross (9, [some (.ref x0), some (.int x1), x2, x3, none, x5, none], []) h = if (x1 - x1 / (Int32.ofInt 48) * (Int32.ofInt 48)) ≤ (Int32.ofInt 0) then W m_Spr_widenAcross (29, [some (.ref x0), some (.int x1), some (.int (x1 - x1 / (Int32.ofInt 48) * (Int32.ofInt 48))), x3, none, x5, none], []) h else W m_Spr_widenAcross (18, [some (.ref x0), some (.int x1), some (.int (x1 - x1 / (Int32.ofInt 48) * (Int32.ofInt 48))), x3, none, x5, none], []) h) ∧
    (∀ (x0 : Nat) (x1 x2 : Int32) (x3 x5 : Option Value) (h : xH), W m_Spr_widenAcross (18, [some (.ref x0), some (.int x1), some (.int x2), x3, none, x5, none], []) h = xpush W m_Spr_widenAcross 22 [some (.ref x0), some (.int x1), some (.int x2), x3, none, x5, none] [] h (xfld 2 3 (h.1 x0))) ∧
    (∀ (x0 y0 : Nat) (x1 x2 : Int32) (x3 x5 : Option Value) (h : xH), W m_Spr_widenAcross (22, [some (.ref x0), some (.int x1), some (.int x2), x3, none, x5, none], [(.ref y0)]) h = xpush W m_Spr_widenAcross 26 [some (.ref x0), some (.int x1), some (.int x2), x3, none, x5, none] [] h (xldL (h.1 y0) (x1 - (Int32.ofInt 1)))) ∧
    (∀ (x0 : Nat) (x1 x2 : Int32) (x3 x5 : Option Value) (y0 : Int64) (h : xH), W m_Spr_widenAcross (26, [some (.ref x0), some (.int x1), some (.int x2), x3, none, x5, none], [(.long y0)]) h = if (Int32.ofInt 47) ≤ x2 then W m_Spr_widenAcross (48, [some (.ref x0), some (.int x1), some (.int x2), some (.long y0), none, x5, none], []) h else W m_Spr_widenAcross (37, [some (.ref x0), some (.int x1), some (.int x2), some (.long y0), none, x5, none], []) h) ∧
    (∀ (x0 : Nat) (x1 x2 : Int32) (x3 x5 : Option Value) (h : xH), W m_Spr_widenAcross (29, [some (.ref x0), some (.int x1), some (.int x2), x3, none, x5, none], []) h = if (Int32.ofInt 47) ≤ x2 then W m_Spr_widenAcross (48, [some (.ref x0), some (.int x1), some (.int x2), some (.long 0), none, x5, none], []) h else W m_Spr_widenAcross (37, [some (.ref x0), some (.int x1), some (.int x2), some (.long 0), none, x5, none], []) h) ∧
    (∀ (x0 : Nat) (x1 x2 : Int32) (x3 : Int64) (x5 : Option Value) (h : xH), W m_Spr_widenAcross (37, [some (.ref x0), some (.int x1), some (.int x2), some (.long x3), none, x5, none], []) h = xpush W m_Spr_widenAcross 41 [some (.ref x0), some (.int x1), some (.int x2), some (.long x3), none, x5, none] [] h (xfld 2 3 (h.1 x0))) ∧
    (∀ (x0 y0 : Nat) (x1 x2 : Int32) (x3 : Int64) (x5 : Option Value) (h : xH), W m_Spr_widenAcross (41, [some (.ref x0), some (.int x1), some (.int x2), some (.long x3), none, x5, none], [(.ref y0)]) h = xpush W m_Spr_widenAcross 45 [some (.ref x0), some (.int x1), some (.int x2), some (.long x3), none, x5, none] [] h (xldL (h.1 y0) (x1 + (Int32.ofInt 1)))) ∧
    (∀ (x0 : Nat) (x1 x2 : Int32) (x3 y0 : Int64) (x5 : Option Value) (h : xH), W m_Spr_widenAcross (45, [some (.ref x0), some (.int x1), some (.int x2), some (.long x3), none, x5, none], [(.long y0)]) h = xpush W m_Spr_widenAcross 55 [some (.ref x0), some (.int x1), some (.int x2), some (.long x3), none, some (.long y0), none] [] h (xfld 2 4 (h.1 x0))) ∧
    (∀ (x0 : Nat) (x1 x2 : Int32) (x3 : Int64) (x5 : Option Value) (h : xH), W m_Spr_widenAcross (48, [some (.ref x0), some (.int x1), some (.int x2), some (.long x3), none, x5, none], []) h = xpush W m_Spr_widenAcross 55 [some (.ref x0), some (.int x1), some (.int x2), some (.long x3), none, some (.long 0), none] [] h (xfld 2 4 (h.1 x0))) ∧
    (∀ (x0 y0 : Nat) (x1 x2 : Int32) (x3 x5 : Int64) (h : xH), W m_Spr_widenAcross (55, [some (.ref x0), some (.int x1), some (.int x2), some (.long x3), none, some (.long x5), none], [(.ref y0)]) h = xpush W m_Spr_widenAcross 61 [some (.ref x0), some (.int x1), some (.int x2), some (.long x3), none, some (.long x5), none] [(.long x3), (.int x1), (.ref y0)] h (xfld 2 3 (h.1 x0))) ∧
    (∀ (x0 y0 y3 : Nat) (x1 x2 y2 : Int32) (x3 x5 y1 : Int64) (h : xH), W m_Spr_widenAcross (61, [some (.ref x0), some (.int x1), some (.int x2), some (.long x3), none, some (.long x5), none], [(.ref y0), (.long y1), (.int y2), (.ref y3)]) h = xpush W m_Spr_widenAcross 63 [some (.ref x0), some (.int x1), some (.int x2), some (.long x3), none, some (.long x5), none] [(.long y1), (.int y2), (.ref y3)] h (xldL (h.1 y0) x1)) ∧
    (∀ (x0 y3 : Nat) (x1 x2 y2 : Int32) (x3 x5 y0 y1 : Int64) (h : xH), W m_Spr_widenAcross (63, [some (.ref x0), some (.int x1), some (.int x2), some (.long x3), none, some (.long x5), none], [(.long y0), (.long y1), (.int y2), (.ref y3)]) h = xthn W m_Spr_widenAcross 68 [some (.ref x0), some (.int x1), some (.int x2), some (.long x3), none, some (.long x5), none] [] (xstL (h.1 y3) h y3 y2 ((y1 ||| y0) ||| x5))) ∧
    (∀ (x0 : Nat) (x1 x2 : Int32) (x3 x5 : Int64) (h : xH), W m_Spr_widenAcross (68, [some (.ref x0), some (.int x1), some (.int x2), some (.long x3), none, some (.long x5), none], []) h = W m_Spr_widenAcross (2, [some (.ref x0), some (.int (x1 + (Int32.ofInt 1))), some (.int x2), some (.long x3), none, some (.long x5), none], []) h) ∧
    (∀ (x0 : Nat) (x1 : Int32) (x2 x3 x5 : Option Value) (h : xH), W m_Spr_widenAcross (74, [some (.ref x0), some (.int x1), x2, x3, none, x5, none], []) h = some (.inl none, h)) :=
  ⟨fun _ _ => (xW_k hW 2 _ _ _).trans rfl,
   fun _ _ _ _ _ _ => (xW_k hW 6 _ _ _).trans rfl,
   fun _ _ _ _ _ _ => (xW_k hW 2 _ _ _).trans xq_fld,
   fun _ _ _ _ _ _ _ => (xW_k hW 4 _ _ _).trans xq_ldL,
   fun _ _ _ _ _ _ _ => (xW_k hW 5 _ _ _).trans rfl,
   fun _ _ _ _ _ _ => (xW_k hW 5 _ _ _).trans rfl,
   fun _ _ _ _ _ _ => (xW_k hW 2 _ _ _).trans xq_fld,
   fun _ _ _ _ _ _ _ => (xW_k hW 4 _ _ _).trans xq_ldL,
   fun _ _ _ _ _ _ _ => (xW_k hW 4 _ _ _).trans xq_fld,
   fun _ _ _ _ _ _ => (xW_k hW 4 _ _ _).trans xq_fld,
   fun _ _ _ _ _ _ _ => (xW_k hW 4 _ _ _).trans xq_fld,
   fun _ _ _ _ _ _ _ _ _ _ => (xW_k hW 2 _ _ _).trans xq_ldL,
   fun _ _ _ _ _ _ _ _ _ _ => (xW_k hW 4 _ _ _).trans xq_stL,
   fun _ _ _ _ _ _ => (xW_k hW 2 _ _ _).trans rfl,
   fun _ _ _ _ _ _ => (xW_k hW 1 _ _ _).trans rfl⟩
theorem L_Spr_widenAcross_2 (hW : ∀ M f h, W M f h = xbody V xF0 xG W M f h) :
    (∀ (x0 : Nat) (x1 : Int32) (x2 x3 x5 : Option Value) (h : xH), W m_Spr_widenAcross (2, [some (.ref x0), some (.int x1), x2, x3, none, x5, none], []) h = if (Int32.ofInt 3072) ≤ x1 then W m_Spr_widenAcross (74, [some (.ref x0), some (.int x1), x2, x3, none, x5, none], []) h else W m_Spr_widenAcross (9, [some (.ref x0), some (.int x1), x2, x3, none, x5, none], []) h) :=
  fun _ _ _ _ _ _ => (xW_k hW 3 _ _ _).trans rfl
theorem X_Spr_widenAcross : xhs m_Spr_widenAcross = [] := rfl
theorem E_Spr_widenDown (hW : ∀ M f h, W M f h = xbody V xF0 xG W M f h) :
    (∀ (x0 : Nat) (h : xH), W m_Spr_widenDown (0, [some (.ref x0), none, none, none, none, none], []) h = W m_Spr_widenDown (2, [some (.ref x0), some (.int (Int32.ofInt 0)), none, none, none, none], []) h) ∧
    (∀ (x0 : Nat) (x1 : Int32) (x2 x4 : Option Value) (h : xH), W m_Spr_widenDown (9, [some (.ref x0), some (.int x1), x2, none, x4, none], []) h = if x1 < (Int32.ofInt 48) then W m_Spr_widenDown (27, [some (.ref x0), some (.int x1), x2, none, x4, none], []) h else W m_Spr_widenDown (15, [some (.ref x0), some (.int x1), x2, none, x4, none], []) h) ∧
    (∀ (x0 : Nat) (x1 : Int32) (x2 x4 : Option Value) (h : xH), W m_Spr_widenDown (15, [some (.ref x0), some (.int x1), x2, none, x4, none], []) h = xpush W m_Spr_widenDown 19 [some (.ref x0), some (.int x1), x2, none, x4, none] [] h (xfld 2 4 (h.1 x0))) ∧
    (∀ (x0 y0 : Nat) (x1 : Int32) (x2 x4 : Option Value) (h : xH), W m_Spr_widenDown (19, [some (.ref x0), some (.int x1), x2, none, x4, none], [(.ref y0)]) h = xpush W m_Spr_widenDown 24 [some (.ref x0), some (.int x1), x2, none, x4, none] [] h (xldL (h.1 y0) (x1 - (Int32.ofInt 48)))) ∧
    (∀ (x0 : Nat) (x1 : Int32) (x2 x4 : Option Value) (y0 : Int64) (h : xH), W m_Spr_widenDown (24, [some (.ref x0), some (.int x1), x2, none, x4, none], [(.long y0)]) h = if (Int32.ofInt 3024) ≤ x1 then W m_Spr_widenDown (48, [some (.ref x0), some (.int x1), some (.long y0), none, x4, none], []) h else W m_Spr_widenDown (36, [some (.ref x0), some (.int x1), some (.long y0), none, x4, none], []) h) ∧
    (∀ (x0 : Nat) (x1 : Int32) (x2 x4 : Option Value) (h : xH), W m_Spr_widenDown (27, [some (.ref x0), some (.int x1), x2, none, x4, none], []) h = if (Int32.ofInt 3024) ≤ x1 then W m_Spr_widenDown (48, [some (.ref x0), some (.int x1), some (.long 0), none, x4, none], []) h else W m_Spr_widenDown (36, [some (.ref x0), some (.int x1), some (.long 0), none, x4, none], []) h) ∧
    (∀ (x0 : Nat) (x1 : Int32) (x2 : Int64) (x4 : Option Value) (h : xH), W m_Spr_widenDown (36, [some (.ref x0), some (.int x1), some (.long x2), none, x4, none], []) h = xpush W m_Spr_widenDown 40 [some (.ref x0), some (.int x1), some (.long x2), none, x4, none] [] h (xfld 2 4 (h.1 x0))) ∧
    (∀ (x0 y0 : Nat) (x1 : Int32) (x2 : Int64) (x4 : Option Value) (h : xH), W m_Spr_widenDown (40, [some (.ref x0), some (.int x1), some (.long x2), none, x4, none], [(.ref y0)]) h = xpush W m_Spr_widenDown 45 [some (.ref x0), some (.int x1), some (.long x2), none, x4, none] [] h (xldL (h.1 y0) (x1 + (Int32.ofInt 48)))) ∧
    (∀ (x0 : Nat) (x1 : Int32) (x2 y0 : Int64) (x4 : Option Value) (h : xH), W m_Spr_widenDown (45, [some (.ref x0), some (.int x1), some (.long x2), none, x4, none], [(.long y0)]) h = xpush W m_Spr_widenDown 55 [some (.ref x0), some (.int x1), some (.long x2), none, some (.long y0), none] [] h (xfld 2 3 (h.1 x0))) ∧
    (∀ (x0 : Nat) (x1 : Int32) (x2 : Int64) (x4 : Option Value) (h : xH), W m_Spr_widenDown (48, [some (.ref x0), some (.int x1), some (.long x2), none, x4, none], []) h = xpush W m_Spr_widenDown 55 [some (.ref x0), some (.int x1), some (.long x2), none, some (.long 0), none] [] h (xfld 2 3 (h.1 x0))) ∧
    (∀ (x0 y0 : Nat) (x1 : Int32) (x2 x4 : Int64) (h : xH), W m_Spr_widenDown (55, [some (.ref x0), some (.int x1), some (.long x2), none, some (.long x4), none], [(.ref y0)]) h = xpush W m_Spr_widenDown 61 [some (.ref x0), some (.int x1), some (.long x2), none, some (.long x4), none] [(.long x2), (.int x1), (.ref y0)] h (xfld 2 4 (h.1 x0))) ∧
    (∀ (x0 y0 y3 : Nat) (x1 y2 : Int32) (x2 x4 y1 : Int64) (h : xH), W m_Spr_widenDown (61, [some (.ref x0), some (.int x1), some (.long x2), none, some (.long x4), none], [(.ref y0), (.long y1), (.int y2), (.ref y3)]) h = xpush W m_Spr_widenDown 63 [some (.ref x0), some (.int x1), some (.long x2), none, some (.long x4), none] [(.long y1), (.int y2), (.ref y3)] h (xldL (h.1 y0) x1)) ∧
    (∀ (x0 y3 : Nat) (x1 y2 : Int32) (x2 x4 y0 y1 : Int64) (h : xH), W m_Spr_widenDown (63, [some (.ref x0), some (.int x1), some (.long x2), none, some (.long x4), none], [(.long y0), (.long y1), (.int y2), (.ref y3)]) h = xthn W m_Spr_widenDown 68 [some (.ref x0), some (.int x1), some (.long x2), none, some (.long x4), none] [] (xstL (h.1 y3) h y3 y2 ((y1 ||| y0) ||| x4))) ∧
    (∀ (x0 : Nat) (x1 : Int32) (x2 x4 : Int64) (h : xH), W m_Spr_widenDown (68, [some (.ref x0), some (.int x1), some (.long x2), none, some (.long x4), none], []) h = W m_Spr_widenDown (2, [some (.ref x0), some (.int (x1 + (Int32.ofInt 1))), some (.long x2), none, some (.long x4), none], []) h) ∧
    (∀ (x0 : Nat) (x1 : Int32) (x2 x4 : Option Value) (h : xH), W m_Spr_widenDown (74, [some (.ref x0), some (.int x1), x2, none, x4, none], []) h = some (.inl none, h)) :=
  ⟨fun _ _ => (xW_k hW 2 _ _ _).trans rfl,
   fun _ _ _ _ _ => (xW_k hW 3 _ _ _).trans rfl,
   fun _ _ _ _ _ => (xW_k hW 2 _ _ _).trans xq_fld,
   fun _ _ _ _ _ _ => (xW_k hW 4 _ _ _).trans xq_ldL,
   fun _ _ _ _ _ _ => (xW_k hW 5 _ _ _).trans rfl,
   fun _ _ _ _ _ => (xW_k hW 5 _ _ _).trans rfl,
   fun _ _ _ _ _ => (xW_k hW 2 _ _ _).trans xq_fld,
   fun _ _ _ _ _ _ => (xW_k hW 4 _ _ _).trans xq_ldL,
   fun _ _ _ _ _ _ => (xW_k hW 4 _ _ _).trans xq_fld,
   fun _ _ _ _ _ => (xW_k hW 4 _ _ _).trans xq_fld,
   fun _ _ _ _ _ _ => (xW_k hW 4 _ _ _).trans xq_fld,
   fun _ _ _ _ _ _ _ _ _ => (xW_k hW 2 _ _ _).trans xq_ldL,
   fun _ _ _ _ _ _ _ _ _ => (xW_k hW 4 _ _ _).trans xq_stL,
   fun _ _ _ _ _ => (xW_k hW 2 _ _ _).trans rfl,
   fun _ _ _ _ _ => (xW_k hW 1 _ _ _).trans rfl⟩
theorem L_Spr_widenDown_2 (hW : ∀ M f h, W M f h = xbody V xF0 xG W M f h) :
    (∀ (x0 : Nat) (x1 : Int32) (x2 x4 : Option Value) (h : xH), W m_Spr_widenDown (2, [some (.ref x0), some (.int x1), x2, none, x4, none], []) h = if (Int32.ofInt 3072) ≤ x1 then W m_Spr_widenDown (74, [some (.ref x0), some (.int x1), x2, none, x4, none], []) h else W m_Spr_widenDown (9, [some (.ref x0), some (.int x1), x2, none, x4, none], []) h) :=
  fun _ _ _ _ _ => (xW_k hW 3 _ _ _).trans rfl
theorem X_Spr_widenDown : xhs m_Spr_widenDown = [] := rfl
theorem E_Spr_markReached (hW : ∀ M f h, W M f h = xbody V xF0 xG W M f h) :
    (∀ (x0 x1 : Nat) (h : xH), W m_Spr_markReached (0, [some (.ref x0), some (.ref x1), none, none, none, none], []) h = W m_Spr_markReached (4, [some (.ref x0), some (.ref x1), some (.int (Int32.ofInt 0)), some (.int (Int32.ofInt 0)), none, none], []) h) ∧
    (∀ (x0 x1 : Nat) (x2 x3 : Int32) (x4 : Option Value) (h : xH), W m_Spr_markReached (11, [some (.ref x0), some (.ref x1), some (.int x2), some (.int x3), x4, none], []) h = xpush W m_Spr_markReached 15 [some (.ref x0), some (.ref x1), some (.int x2), some (.int x3), x4, none] [] h (xfld 2 3 (h.1 x0))) ∧
    (∀ (x0 x1 y0 : Nat) (x2 x3 : Int32) (x4 : Option Value) (h : xH), W m_Spr_markReached (15, [some (.ref x0), some (.ref x1), some (.int x2), some (.int x3), x4, none], [(.ref y0)]) h = xpush W m_Spr_markReached 17 [some (.ref x0), some (.ref x1), some (.int x2), some (.int x3), x4, none] [] h (xldL (h.1 y0) x3)) ∧
    (∀ (x0 x1 : Nat) (x2 x3 : Int32) (x4 : Option Value) (y0 : Int64) (h : xH), W m_Spr_markReached (17, [some (.ref x0), some (.ref x1), some (.int x2), some (.int x3), x4, none], [(.long y0)]) h = xpush W m_Spr_markReached 21 [some (.ref x0), some (.ref x1), some (.int x2), some (.int x3), x4, none] [(.long y0)] h (xfld 2 2 (h.1 x0))) ∧
    (∀ (x0 x1 y0 : Nat) (x2 x3 : Int32) (x4 : Option Value) (y1 : Int64) (h : xH), W m_Spr_markReached (21, [some (.ref x0), some (.ref x1), some (.int x2), some (.int x3), x4, none], [(.ref y0), (.long y1)]) h = xret W m_Spr_markReached 23 26 [some (.ref x0), some (.ref x1), some (.int x2), some (.int x3), x4, none] [(.ref y0), (.long y1)] (xrc 1 (h.1 x1) (W m_Job_colourAt (0, [some (.ref x1), some (.int x3)], []) h))) ∧
    (∀ (x0 x1 y1 : Nat) (x2 x3 y0 : Int32) (x4 : Option Value) (y2 : Int64) (h : xH), W m_Spr_markReached (26, [some (.ref x0), some (.ref x1), some (.int x2), some (.int x3), x4, none], [(.int y0), (.ref y1), (.long y2)]) h = xpush W m_Spr_markReached 27 [some (.ref x0), some (.ref x1), some (.int x2), some (.int x3), x4, none] [(.long y2)] h (xldL (h.1 y1) y0)) ∧
    (∀ (x0 x1 : Nat) (x2 x3 : Int32) (x4 : Option Value) (y0 y1 : Int64) (h : xH), W m_Spr_markReached (27, [some (.ref x0), some (.ref x1), some (.int x2), some (.int x3), x4, none], [(.long y0), (.long y1)]) h = if (lg_cmp (y1 &&& y0) 0) = (Int32.ofInt 0) then W m_Spr_markReached (59, [some (.ref x0), some (.ref x1), some (.int x2), some (.int x3), some (.long (y1 &&& y0)), none], []) h else W m_Spr_markReached (37, [some (.ref x0), some (.ref x1), some (.int x2), some (.int x3), some (.long (y1 &&& y0)), none], []) h) ∧
    (∀ (x0 x1 : Nat) (x2 x3 : Int32) (x4 : Int64) (h : xH), W m_Spr_markReached (37, [some (.ref x0), some (.ref x1), some (.int x2), some (.int x3), some (.long x4), none], []) h = xret W m_Spr_markReached 39 42 [some (.ref x0), some (.ref x1), some (.int x2), some (.int x3), some (.long x4), none] [] (xrc 1 (h.1 x1) (W m_Job_lighterAt (0, [some (.ref x1), some (.int x3)], []) h))) ∧
    (∀ (x0 x1 : Nat) (x2 x3 y0 : Int32) (x4 : Int64) (h : xH), W m_Spr_markReached (42, [some (.ref x0), some (.ref x1), some (.int x2), some (.int x3), some (.long x4), none], [(.int y0)]) h = if y0 = (Int32.ofInt (-1)) then W m_Spr_markReached (46, [some (.ref x0), some (.ref x1), some (.int x2), some (.int x3), some (.long x4), none], []) h else W m_Spr_markReached (59, [some (.ref x0), some (.ref x1), some (.int x2), some (.int x3), some (.long x4), none], []) h) ∧
    (∀ (x0 x1 : Nat) (x2 x3 : Int32) (x4 : Int64) (h : xH), W m_Spr_markReached (46, [some (.ref x0), some (.ref x1), some (.int x2), some (.int x3), some (.long x4), none], []) h = xret W m_Spr_markReached 50 53 [some (.ref x0), some (.ref x1), some (.int x2), some (.int x3), some (.long x4), none] [(.int x3), (.ref x1)] (W m_Long_numberOfTrailingZeros (0, [some (.long x4), none, none], []) h)) ∧
    (∀ (x0 x1 y2 : Nat) (x2 x3 y0 y1 : Int32) (x4 : Int64) (h : xH), W m_Spr_markReached (53, [some (.ref x0), some (.ref x1), some (.int x2), some (.int x3), some (.long x4), none], [(.int y0), (.int y1), (.ref y2)]) h = xret W m_Spr_markReached 53 56 [some (.ref x0), some (.ref x1), some (.int x2), some (.int x3), some (.long x4), none] [] (xrc 1 (h.1 y2) (W m_Job_setLighter (0, [some (.ref y2), some (.int y1), some (.int y0)], []) h))) ∧
    (∀ (x0 x1 : Nat) (x2 x3 : Int32) (x4 : Int64) (h : xH), W m_Spr_markReached (56, [some (.ref x0), some (.ref x1), some (.int x2), some (.int x3), some (.long x4), none], []) h = W m_Spr_markReached (4, [some (.ref x0), some (.ref x1), some (.int (x2 + (Int32.ofInt 1))), some (.int (x3 + (Int32.ofInt 1))), some (.long x4), none], []) h) ∧
    (∀ (x0 x1 : Nat) (x2 x3 : Int32) (x4 : Int64) (h : xH), W m_Spr_markReached (59, [some (.ref x0), some (.ref x1), some (.int x2), some (.int x3), some (.long x4), none], []) h = W m_Spr_markReached (4, [some (.ref x0), some (.ref x1), some (.int x2), some (.int (x3 + (Int32.ofInt 1))), some (.long x4), none], []) h) ∧
    (∀ (x0 x1 : Nat) (x2 x3 : Int32) (x4 : Option Value) (h : xH), W m_Spr_markReached (65, [some (.ref x0), some (.ref x1), some (.int x2), some (.int x3), x4, none], []) h = some (.inl (some (.int x2)), h)) :=
  ⟨fun _ _ _ => (xW_k hW 4 _ _ _).trans rfl,
   fun _ _ _ _ _ _ => (xW_k hW 2 _ _ _).trans xq_fld,
   fun _ _ _ _ _ _ _ => (xW_k hW 2 _ _ _).trans xq_ldL,
   fun _ _ _ _ _ _ _ => (xW_k hW 2 _ _ _).trans xq_fld,
   fun _ _ _ _ _ _ _ _ => (xW_k hW 3 _ _ _).trans xq_rc,
   fun _ _ _ _ _ _ _ _ _ => (xW_k hW 1 _ _ _).trans xq_ldL,
   fun _ _ _ _ _ _ _ _ => (xW_k hW 6 _ _ _).trans rfl,
   fun _ _ _ _ _ _ => (xW_k hW 3 _ _ _).trans xq_rc,
   fun _ _ _ _ _ _ _ => (xW_k hW 2 _ _ _).trans rfl,
   fun _ _ _ _ _ _ => (xW_k hW 4 _ _ _).trans rfl,
   fun _ _ _ _ _ _ _ _ _ => (xW_k hW 1 _ _ _).trans xq_rc,
   fun _ _ _ _ _ _ => (xW_k hW 3 _ _ _).trans rfl,
   fun _ _ _ _ _ _ => (xW_k hW 2 _ _ _).trans rfl,
   fun _ _ _ _ _ _ => (xW_k hW 2 _ _ _).trans rfl⟩
theorem L_Spr_markReached_4 (hW : ∀ M f h, W M f h = xbody V xF0 xG W M f h) :
    (∀ (x0 x1 : Nat) (x2 x3 : Int32) (x4 : Option Value) (h : xH), W m_Spr_markReached (4, [some (.ref x0), some (.ref x1), some (.int x2), some (.int x3), x4, none], []) h = if (Int32.ofInt 3072) ≤ x3 then W m_Spr_markReached (65, [some (.ref x0), some (.ref x1), some (.int x2), some (.int x3), x4, none], []) h else W m_Spr_markReached (11, [some (.ref x0), some (.ref x1), some (.int x2), some (.int x3), x4, none], []) h) :=
  fun _ _ _ _ _ _ => (xW_k hW 3 _ _ _).trans rfl
theorem X_Spr_markReached : xhs m_Spr_markReached = [] := rfl
theorem E_Job_lighterAt (hW : ∀ M f h, W M f h = xbody V xF0 xG W M f h) :
    (∀ (x0 : Nat) (x1 : Int32) (h : xH), W m_Job_lighterAt (0, [some (.ref x0), some (.int x1)], []) h = xpush W m_Job_lighterAt 4 [some (.ref x0), some (.int x1)] [] h (xfld 1 1 (h.1 x0))) ∧
    (∀ (x0 y0 : Nat) (x1 : Int32) (h : xH), W m_Job_lighterAt (4, [some (.ref x0), some (.int x1)], [(.ref y0)]) h = xpush W m_Job_lighterAt 6 [some (.ref x0), some (.int x1)] [] h (xldI (h.1 y0) x1)) ∧
    (∀ (x0 : Nat) (x1 y0 : Int32) (h : xH), W m_Job_lighterAt (6, [some (.ref x0), some (.int x1)], [(.int y0)]) h = some (.inl (some (.int y0)), h)) :=
  ⟨fun _ _ _ => (xW_k hW 2 _ _ _).trans xq_fld,
   fun _ _ _ _ => (xW_k hW 2 _ _ _).trans xq_ldI,
   fun _ _ _ _ => (xW_k hW 1 _ _ _).trans rfl⟩
theorem X_Job_lighterAt : xhs m_Job_lighterAt = [] := rfl
theorem E_Long_numberOfTrailingZeros (hW : ∀ M f h, W M f h = xbody V xF0 xG W M f h) :
    (∀ (x0 : Int64) (h : xH), W m_Long_numberOfTrailingZeros (0, [some (.long x0), none, none], []) h = if (Int64.toInt32 x0) = (Int32.ofInt 0) then W m_Long_numberOfTrailingZeros (7, [some (.long x0), none, some (.int (Int64.toInt32 x0))], []) h else W m_Long_numberOfTrailingZeros (21, [some (.long x0), none, some (.int (Int64.toInt32 x0))], []) h) ∧
    (∀ (x0 : Int64) (x2 : Int32) (h : xH), W m_Long_numberOfTrailingZeros (7, [some (.long x0), none, some (.int x2)], []) h = xret W m_Long_numberOfTrailingZeros 14 17 [some (.long x0), none, some (.int x2)] [(.int (Int32.ofInt 32))] (W m_Integer_numberOfTrailingZeros (0, [some (.int (Int64.toInt32 ((Int64.toUInt64 x0 >>> ((Int32.toInt64 (Int32.ofInt 32)).toUInt64 &&& Int64.toUInt64 63)).toInt64))), none], []) h)) ∧
    (∀ (x0 : Int64) (x2 y0 y1 : Int32) (h : xH), W m_Long_numberOfTrailingZeros (17, [some (.long x0), none, some (.int x2)], [(.int y0), (.int y1)]) h = some (.inl (some (.int (y1 + y0))), h)) ∧
    (∀ (x0 : Int64) (x2 : Int32) (h : xH), W m_Long_numberOfTrailingZeros (21, [some (.long x0), none, some (.int x2)], []) h = xret W m_Long_numberOfTrailingZeros 22 25 [some (.long x0), none, some (.int x2)] [] (W m_Integer_numberOfTrailingZeros (0, [some (.int x2), none], []) h)) ∧
    (∀ (x0 : Int64) (x2 y0 : Int32) (h : xH), W m_Long_numberOfTrailingZeros (25, [some (.long x0), none, some (.int x2)], [(.int y0)]) h = some (.inl (some (.int y0)), h)) :=
  ⟨fun _ _ => (xW_k hW 5 _ _ _).trans rfl,
   fun _ _ _ => (xW_k hW 6 _ _ _).trans rfl,
   fun _ _ _ _ _ => (xW_k hW 3 _ _ _).trans rfl,
   fun _ _ _ => (xW_k hW 2 _ _ _).trans rfl,
   fun _ _ _ _ => (xW_k hW 1 _ _ _).trans rfl⟩
theorem X_Long_numberOfTrailingZeros : xhs m_Long_numberOfTrailingZeros = [] := rfl
theorem E_Integer_numberOfTrailingZeros (hW : ∀ M f h, W M f h = xbody V xF0 xG W M f h) :
    (∀ (x0 : Int32) (h : xH), W m_Integer_numberOfTrailingZeros (0, [some (.int x0), none], []) h = if (Int32.ofInt 0) < ((x0 ^^^ (Int32.ofInt (-1))) &&& (x0 - (Int32.ofInt 1))) then W m_Integer_numberOfTrailingZeros (17, [some (.int ((x0 ^^^ (Int32.ofInt (-1))) &&& (x0 - (Int32.ofInt 1)))), none], []) h else W m_Integer_numberOfTrailingZeros (12, [some (.int ((x0 ^^^ (Int32.ofInt (-1))) &&& (x0 - (Int32.ofInt 1)))), none], []) h) ∧
    (∀ (x0 : Int32) (h : xH), W m_Integer_numberOfTrailingZeros (12, [some (.int x0), none], []) h = some (.inl (some (.int (x0 &&& (Int32.ofInt 32)))), h)) ∧
    (∀ (x0 : Int32) (h : xH), W m_Integer_numberOfTrailingZeros (17, [some (.int x0), none], []) h = if x0 ≤ (Int32.ofInt 65536) then W m_Integer_numberOfTrailingZeros (34, [some (.int x0), some (.int (Int32.ofInt 1))], []) h else W m_Integer_numberOfTrailingZeros (26, [some (.int x0), some (.int (Int32.ofInt 1))], []) h) ∧
    (∀ (x0 x1 : Int32) (h : xH), W m_Integer_numberOfTrailingZeros (26, [some (.int x0), some (.int x1)], []) h = if ((Int32.toUInt32 x0 >>> (Int32.toUInt32 (Int32.ofInt 16) &&& Int32.toUInt32 31)).toInt32) ≤ (Int32.ofInt 256) then W m_Integer_numberOfTrailingZeros (49, [some (.int ((Int32.toUInt32 x0 >>> (Int32.toUInt32 (Int32.ofInt 16) &&& Int32.toUInt32 31)).toInt32)), some (.int (x1 + (Int32.ofInt 16)))], []) h else W m_Integer_numberOfTrailingZeros (41, [some (.int ((Int32.toUInt32 x0 >>> (Int32.toUInt32 (Int32.ofInt 16) &&& Int32.toUInt32 31)).toInt32)), some (.int (x1 + (Int32.ofInt 16)))], []) h) ∧
    (∀ (x0 x1 : Int32) (h : xH), W m_Integer_numberOfTrailingZeros (34, [some (.int x0), some (.int x1)], []) h = if x0 ≤ (Int32.ofInt 256) then W m_Integer_numberOfTrailingZeros (49, [some (.int x0), some (.int x1)], []) h else W m_Integer_numberOfTrailingZeros (41, [some (.int x0), some (.int x1)], []) h) ∧
    (∀ (x0 x1 : Int32) (h : xH), W m_Integer_numberOfTrailingZeros (41, [some (.int x0), some (.int x1)], []) h = if ((Int32.toUInt32 x0 >>> (Int32.toUInt32 (Int32.ofInt 8) &&& Int32.toUInt32 31)).toInt32) ≤ (Int32.ofInt 16) then W m_Integer_numberOfTrailingZeros (62, [some (.int ((Int32.toUInt32 x0 >>> (Int32.toUInt32 (Int32.ofInt 8) &&& Int32.toUInt32 31)).toInt32)), some (.int (x1 + (Int32.ofInt 8)))], []) h else W m_Integer_numberOfTrailingZeros (55, [some (.int ((Int32.toUInt32 x0 >>> (Int32.toUInt32 (Int32.ofInt 8) &&& Int32.toUInt32 31)).toInt32)), some (.int (x1 + (Int32.ofInt 8)))], []) h) ∧
    (∀ (x0 x1 : Int32) (h : xH), W m_Integer_numberOfTrailingZeros (49, [some (.int x0), some (.int x1)], []) h = if x0 ≤ (Int32.ofInt 16) then W m_Integer_numberOfTrailingZeros (62, [some (.int x0), some (.int x1)], []) h else W m_Integer_numberOfTrailingZeros (55, [some (.int x0), some (.int x1)], []) h) ∧
    (∀ (x0 x1 : Int32) (h : xH), W m_Integer_numberOfTrailingZeros (55, [some (.int x0), some (.int x1)], []) h = if ((Int32.toUInt32 x0 >>> (Int32.toUInt32 (Int32.ofInt 4) &&& Int32.toUInt32 31)).toInt32) ≤ (Int32.ofInt 4) then W m_Integer_numberOfTrailingZeros (74, [some (.int ((Int32.toUInt32 x0 >>> (Int32.toUInt32 (Int32.ofInt 4) &&& Int32.toUInt32 31)).toInt32)), some (.int (x1 + (Int32.ofInt 4)))], []) h else W m_Integer_numberOfTrailingZeros (67, [some (.int ((Int32.toUInt32 x0 >>> (Int32.toUInt32 (Int32.ofInt 4) &&& Int32.toUInt32 31)).toInt32)), some (.int (x1 + (Int32.ofInt 4)))], []) h) ∧
    (∀ (x0 x1 : Int32) (h : xH), W m_Integer_numberOfTrailingZeros (62, [some (.int x0), some (.int x1)], []) h = if x0 ≤ (Int32.ofInt 4) then W m_Integer_numberOfTrailingZeros (74, [some (.int x0), some (.int x1)], []) h else W m_Integer_numberOfTrailingZeros (67, [some (.int x0), some (.int x1)], []) h) ∧
    (∀ (x0 x1 : Int32) (h : xH), W m_Integer_numberOfTrailingZeros (67, [some (.int x0), some (.int x1)], []) h = some (.inl (some (.int ((x1 + (Int32.ofInt 2)) + ((Int32.toUInt32 ((Int32.toUInt32 x0 >>> (Int32.toUInt32 (Int32.ofInt 2) &&& Int32.toUInt32 31)).toInt32) >>> (Int32.toUInt32 (Int32.ofInt 1) &&& Int32.toUInt32 31)).toInt32)))), h)) ∧
    (∀ (x0 x1 : Int32) (h : xH), W m_Integer_numberOfTrailingZeros (74, [some (.int x0), some (.int x1)], []) h = some (.inl (some (.int (x1 + ((Int32.toUInt32 x0 >>> (Int32.toUInt32 (Int32.ofInt 1) &&& Int32.toUInt32 31)).toInt32)))), h)) :=
  ⟨fun _ _ => (xW_k hW 10 _ _ _).trans rfl,
   fun _ _ => (xW_k hW 4 _ _ _).trans rfl,
   fun _ _ => (xW_k hW 5 _ _ _).trans rfl,
   fun _ _ _ => (xW_k hW 8 _ _ _).trans rfl,
   fun _ _ _ => (xW_k hW 3 _ _ _).trans rfl,
   fun _ _ _ => (xW_k hW 8 _ _ _).trans rfl,
   fun _ _ _ => (xW_k hW 3 _ _ _).trans rfl,
   fun _ _ _ => (xW_k hW 8 _ _ _).trans rfl,
   fun _ _ _ => (xW_k hW 3 _ _ _).trans rfl,
   fun _ _ _ => (xW_k hW 11 _ _ _).trans rfl,
   fun _ _ _ => (xW_k hW 6 _ _ _).trans rfl⟩
theorem X_Integer_numberOfTrailingZeros : xhs m_Integer_numberOfTrailingZeros = [] := rfl
theorem E_Job_setLighter (hW : ∀ M f h, W M f h = xbody V xF0 xG W M f h) :
    (∀ (x0 : Nat) (x1 x2 : Int32) (h : xH), W m_Job_setLighter (0, [some (.ref x0), some (.int x1), some (.int x2)], []) h = xpush W m_Job_setLighter 4 [some (.ref x0), some (.int x1), some (.int x2)] [] h (xfld 1 1 (h.1 x0))) ∧
    (∀ (x0 y0 : Nat) (x1 x2 : Int32) (h : xH), W m_Job_setLighter (4, [some (.ref x0), some (.int x1), some (.int x2)], [(.ref y0)]) h = xthn W m_Job_setLighter 7 [some (.ref x0), some (.int x1), some (.int x2)] [] (xstI (h.1 y0) h y0 x1 x2)) ∧
    (∀ (x0 : Nat) (x1 x2 : Int32) (h : xH), W m_Job_setLighter (7, [some (.ref x0), some (.int x1), some (.int x2)], []) h = some (.inl none, h)) :=
  ⟨fun _ _ _ _ => (xW_k hW 2 _ _ _).trans xq_fld,
   fun _ _ _ _ _ => (xW_k hW 3 _ _ _).trans xq_stI,
   fun _ _ _ _ => (xW_k hW 1 _ _ _).trans rfl⟩
theorem X_Job_setLighter : xhs m_Job_setLighter = [] := rfl
theorem E_Job_setSpread (hW : ∀ M f h, W M f h = xbody V xF0 xG W M f h) :
    (∀ (x0 : Nat) (h : xH), W m_Job_setSpread (0, [some (.ref x0)], []) h = xthn W m_Job_setSpread 5 [some (.ref x0)] [] (xptf (h.1 x0) h x0 1 4 1 (.int (Int32.ofInt 1)))) ∧
    (∀ (x0 : Nat) (h : xH), W m_Job_setSpread (5, [some (.ref x0)], []) h = some (.inl none, h)) :=
  ⟨fun _ _ => (xW_k hW 3 _ _ _).trans xq_ptf,
   fun _ _ => (xW_k hW 1 _ _ _).trans rfl⟩
theorem X_Job_setSpread : xhs m_Job_setSpread = [] := rfl
theorem E_Law_trapped (hW : ∀ M f h, W M f h = xbody V xF0 xG W M f h) :
    (∀ (x0 x4 : Nat) (x1 x2 x3 : Int32) (h : xH), W m_Law_trapped (0, [some (.ref x0), some (.int x1), some (.int x2), some (.int x3), some (.ref x4), none], []) h = xret W m_Law_trapped 7 10 [some (.ref x0), some (.int x1), some (.int x2), some (.int x3), some (.ref x4), none] [(.int (Int32.ofInt 0)), (.ref x4)] (xrc 0 (h.1 x0) (W m_Room_trapped (0, [some (.ref x0), some (.int x1), some (.int x2), some (.int x3)], []) h))) ∧
    (∀ (x0 x4 y2 : Nat) (x1 x2 x3 y0 y1 : Int32) (h : xH), W m_Law_trapped (10, [some (.ref x0), some (.int x1), some (.int x2), some (.int x3), some (.ref x4), none], [(.int y0), (.int y1), (.ref y2)]) h = xthn W m_Law_trapped 12 [some (.ref x0), some (.int x1), some (.int x2), some (.int x3), some (.ref x4), none] [] (xstL (h.1 y2) h y2 y1 (Int32.toInt64 y0))) ∧
    (∀ (x0 x4 : Nat) (x1 x2 x3 : Int32) (h : xH), W m_Law_trapped (12, [some (.ref x0), some (.int x1), some (.int x2), some (.int x3), some (.ref x4), none], []) h = some (.inl (some (.int (Int32.ofInt 0))), h)) ∧
    (∀ (x0 x4 y0 : Nat) (x1 x2 x3 : Int32) (h : xH), W m_Law_trapped (15, [some (.ref x0), some (.int x1), some (.int x2), some (.int x3), some (.ref x4), none], [(.ref y0)]) h = some (.inl (some (.int (Int32.ofInt 1))), h)) ∧
    (∀ (x0 x4 y0 : Nat) (x1 x2 x3 : Int32) (h : xH), W m_Law_trapped (19, [some (.ref x0), some (.int x1), some (.int x2), some (.int x3), some (.ref x4), none], [(.ref y0)]) h = some (.inl (some (.int (Int32.ofInt 2))), h)) :=
  ⟨fun _ _ _ _ _ _ => (xW_k hW 7 _ _ _).trans xq_rc,
   fun _ _ _ _ _ _ _ _ _ => (xW_k hW 2 _ _ _).trans xq_stL,
   fun _ _ _ _ _ _ => (xW_k hW 3 _ _ _).trans rfl,
   fun _ _ _ _ _ _ _ => (xW_k hW 3 _ _ _).trans rfl,
   fun _ _ _ _ _ _ _ => (xW_k hW 3 _ _ _).trans rfl⟩
theorem E_Room_trapped (hW : ∀ M f h, W M f h = xbody V xF0 xG W M f h) :
    (∀ (x0 : Nat) (x1 x2 x3 : Int32) (h : xH), W m_Room_trapped (0, [some (.ref x0), some (.int x1), some (.int x2), some (.int x3)], []) h = xret W m_Room_trapped 4 7 [some (.ref x0), some (.int x1), some (.int x2), some (.int x3)] [] (xrc 0 (h.1 x0) (W m_Room_madeJob (0, [some (.ref x0), some (.int x1), some (.int x2), some (.int x3)], []) h))) ∧
    (∀ (x0 y0 : Nat) (x1 x2 x3 : Int32) (h : xH), W m_Room_trapped (7, [some (.ref x0), some (.int x1), some (.int x2), some (.int x3)], [(.ref y0)]) h = xret W m_Room_trapped 9 12 [some (.ref x0), some (.int x1), some (.int x2), some (.int x3)] [(.ref y0)] (W m_Room_cellAt (0, [some (.int x2), some (.int x3)], []) h)) ∧
    (∀ (x0 y1 : Nat) (x1 x2 x3 y0 : Int32) (h : xH), W m_Room_trapped (12, [some (.ref x0), some (.int x1), some (.int x2), some (.int x3)], [(.int y0), (.ref y1)]) h = xret W m_Room_trapped 12 15 [some (.ref x0), some (.int x1), some (.int x2), some (.int x3)] [] (xrc 1 (h.1 y1) (W m_Job_markAt (0, [some (.ref y1), some (.int y0)], []) h))) ∧
    (∀ (x0 : Nat) (x1 x2 x3 y0 : Int32) (h : xH), W m_Room_trapped (15, [some (.ref x0), some (.int x1), some (.int x2), some (.int x3)], [(.int y0)]) h = some (.inl (some (.int y0)), h)) :=
  ⟨fun _ _ _ _ _ => (xW_k hW 5 _ _ _).trans xq_rc,
   fun _ _ _ _ _ _ => (xW_k hW 3 _ _ _).trans rfl,
   fun _ _ _ _ _ _ _ => (xW_k hW 1 _ _ _).trans xq_rc,
   fun _ _ _ _ _ _ => (xW_k hW 1 _ _ _).trans rfl⟩
theorem X_Room_trapped : xhs m_Room_trapped = [] := rfl
theorem E_Job_markAt (hW : ∀ M f h, W M f h = xbody V xF0 xG W M f h) :
    (∀ (x0 : Nat) (x1 : Int32) (h : xH), W m_Job_markAt (0, [some (.ref x0), some (.int x1)], []) h = xpush W m_Job_markAt 4 [some (.ref x0), some (.int x1)] [] h (xfld 1 1 (h.1 x0))) ∧
    (∀ (x0 y0 : Nat) (x1 : Int32) (h : xH), W m_Job_markAt (4, [some (.ref x0), some (.int x1)], [(.ref y0)]) h = xpush W m_Job_markAt 6 [some (.ref x0), some (.int x1)] [] h (xldI (h.1 y0) x1)) ∧
    (∀ (x0 : Nat) (x1 y0 : Int32) (h : xH), W m_Job_markAt (6, [some (.ref x0), some (.int x1)], [(.int y0)]) h = if y0 = (Int32.ofInt (-1)) then W m_Job_markAt (10, [some (.ref x0), some (.int x1)], []) h else W m_Job_markAt (14, [some (.ref x0), some (.int x1)], []) h) ∧
    (∀ (x0 : Nat) (x1 : Int32) (h : xH), W m_Job_markAt (10, [some (.ref x0), some (.int x1)], []) h = some (.inl (some (.int (Int32.ofInt 0))), h)) ∧
    (∀ (x0 : Nat) (x1 : Int32) (h : xH), W m_Job_markAt (14, [some (.ref x0), some (.int x1)], []) h = xpush W m_Job_markAt 21 [some (.ref x0), some (.int x1)] [(.int (Int32.ofInt 64)), (.int (Int32.ofInt 1))] h (xfld 1 1 (h.1 x0))) ∧
    (∀ (x0 y0 : Nat) (x1 y1 y2 : Int32) (h : xH), W m_Job_markAt (21, [some (.ref x0), some (.int x1)], [(.ref y0), (.int y1), (.int y2)]) h = xpush W m_Job_markAt 23 [some (.ref x0), some (.int x1)] [(.int y1), (.int y2)] h (xldI (h.1 y0) x1)) ∧
    (∀ (x0 : Nat) (x1 y0 y1 y2 : Int32) (h : xH), W m_Job_markAt (23, [some (.ref x0), some (.int x1)], [(.int y0), (.int y1), (.int y2)]) h = xpush W m_Job_markAt 29 [some (.ref x0), some (.int x1)] [(.int (y2 + (y1 * y0)))] h (xfld 1 0 (h.1 x0))) ∧
    (∀ (x0 y0 : Nat) (x1 y1 : Int32) (h : xH), W m_Job_markAt (29, [some (.ref x0), some (.int x1)], [(.ref y0), (.int y1)]) h = xpush W m_Job_markAt 31 [some (.ref x0), some (.int x1)] [(.int y1)] h (xldI (h.1 y0) x1)) ∧
    (∀ (x0 : Nat) (x1 y0 y1 : Int32) (h : xH), W m_Job_markAt (31, [some (.ref x0), some (.int x1)], [(.int y0), (.int y1)]) h = some (.inl (some (.int (y1 + y0))), h)) :=
  ⟨fun _ _ _ => (xW_k hW 2 _ _ _).trans xq_fld,
   fun _ _ _ _ => (xW_k hW 2 _ _ _).trans xq_ldI,
   fun _ _ _ _ => (xW_k hW 2 _ _ _).trans rfl,
   fun _ _ _ => (xW_k hW 3 _ _ _).trans rfl,
   fun _ _ _ => (xW_k hW 4 _ _ _).trans xq_fld,
   fun _ _ _ _ _ _ => (xW_k hW 2 _ _ _).trans xq_ldI,
   fun _ _ _ _ _ _ => (xW_k hW 4 _ _ _).trans xq_fld,
   fun _ _ _ _ _ => (xW_k hW 2 _ _ _).trans xq_ldI,
   fun _ _ _ _ _ => (xW_k hW 2 _ _ _).trans rfl⟩
theorem X_Job_markAt : xhs m_Job_markAt = [] := rfl
theorem E_Law_screen (hW : ∀ M f h, W M f h = xbody V xF0 xG W M f h) :
    (∀ (x0 x5 : Nat) (x1 x2 x3 x4 : Int32) (h : xH), W m_Law_screen (0, [some (.ref x0), some (.int x1), some (.int x2), some (.int x3), some (.int x4), some (.ref x5), none], []) h = xret W m_Law_screen 9 12 [some (.ref x0), some (.int x1), some (.int x2), some (.int x3), some (.int x4), some (.ref x5), none] [(.int (Int32.ofInt 0)), (.ref x5)] (xrc 0 (h.1 x0) (W m_Room_screen (0, [some (.ref x0), some (.int x1), some (.int x2), some (.int x3), some (.int x4)], []) h))) ∧
    (∀ (x0 x5 y2 : Nat) (x1 x2 x3 x4 y0 y1 : Int32) (h : xH), W m_Law_screen (12, [some (.ref x0), some (.int x1), some (.int x2), some (.int x3), some (.int x4), some (.ref x5), none], [(.int y0), (.int y1), (.ref y2)]) h = xthn W m_Law_screen 14 [some (.ref x0), some (.int x1), some (.int x2), some (.int x3), some (.int x4), some (.ref x5), none] [] (xstL (h.1 y2) h y2 y1 (Int32.toInt64 y0))) ∧
    (∀ (x0 x5 : Nat) (x1 x2 x3 x4 : Int32) (h : xH), W m_Law_screen (14, [some (.ref x0), some (.int x1), some (.int x2), some (.int x3), some (.int x4), some (.ref x5), none], []) h = some (.inl (some (.int (Int32.ofInt 0))), h)) ∧
    (∀ (x0 x5 y0 : Nat) (x1 x2 x3 x4 : Int32) (h : xH), W m_Law_screen (17, [some (.ref x0), some (.int x1), some (.int x2), some (.int x3), some (.int x4), some (.ref x5), none], [(.ref y0)]) h = some (.inl (some (.int (Int32.ofInt 1))), h)) ∧
    (∀ (x0 x5 y0 : Nat) (x1 x2 x3 x4 : Int32) (h : xH), W m_Law_screen (21, [some (.ref x0), some (.int x1), some (.int x2), some (.int x3), some (.int x4), some (.ref x5), none], [(.ref y0)]) h = some (.inl (some (.int (Int32.ofInt 2))), h)) :=
  ⟨fun _ _ _ _ _ _ _ => (xW_k hW 8 _ _ _).trans xq_rc,
   fun _ _ _ _ _ _ _ _ _ _ => (xW_k hW 2 _ _ _).trans xq_stL,
   fun _ _ _ _ _ _ _ => (xW_k hW 3 _ _ _).trans rfl,
   fun _ _ _ _ _ _ _ _ => (xW_k hW 3 _ _ _).trans rfl,
   fun _ _ _ _ _ _ _ _ => (xW_k hW 3 _ _ _).trans rfl⟩
theorem E_Room_screen (hW : ∀ M f h, W M f h = xbody V xF0 xG W M f h) :
    (∀ (x0 : Nat) (x1 x2 x3 x4 : Int32) (h : xH), W m_Room_screen (0, [some (.ref x0), some (.int x1), some (.int x2), some (.int x3), some (.int x4)], []) h = xret W m_Room_screen 3 6 [some (.ref x0), some (.int x1), some (.int x2), some (.int x3), some (.int x4)] [] (W m_Room_needIndex (0, [some (.int x1), some (.int (Int32.ofInt 8))], []) h)) ∧
    (∀ (x0 : Nat) (x1 x2 x3 x4 : Int32) (h : xH), W m_Room_screen (6, [some (.ref x0), some (.int x1), some (.int x2), some (.int x3), some (.int x4)], []) h = xret W m_Room_screen 11 14 [some (.ref x0), some (.int x1), some (.int x2), some (.int x3), some (.int x4)] [] (W m_Room_needBetween (0, [some (.int x2), some (.int (Int32.ofInt (-20))), some (.int (Int32.ofInt 20))], []) h)) ∧
    (∀ (x0 : Nat) (x1 x2 x3 x4 : Int32) (h : xH), W m_Room_screen (14, [some (.ref x0), some (.int x1), some (.int x2), some (.int x3), some (.int x4)], []) h = xret W m_Room_screen 19 22 [some (.ref x0), some (.int x1), some (.int x2), some (.int x3), some (.int x4)] [] (W m_Room_needBetween (0, [some (.int x3), some (.int (Int32.ofInt (-20))), some (.int (Int32.ofInt 20))], []) h)) ∧
    (∀ (x0 : Nat) (x1 x2 x3 x4 : Int32) (h : xH), W m_Room_screen (22, [some (.ref x0), some (.int x1), some (.int x2), some (.int x3), some (.int x4)], []) h = xret W m_Room_screen 33 36 [some (.ref x0), some (.int x1), some (.int x2), some (.int x3), some (.int x4)] [] (W m_Room_needBetween (0, [some (.int ((x2 * x2) + (x3 * x3))), some (.int (Int32.ofInt 1)), some (.int (Int32.ofInt 400))], []) h)) ∧
    (∀ (x0 : Nat) (x1 x2 x3 x4 : Int32) (h : xH), W m_Room_screen (36, [some (.ref x0), some (.int x1), some (.int x2), some (.int x3), some (.int x4)], []) h = xret W m_Room_screen 40 43 [some (.ref x0), some (.int x1), some (.int x2), some (.int x3), some (.int x4)] [] (W m_Room_needBetween (0, [some (.int x4), some (.int (Int32.ofInt 0)), some (.int (Int32.ofInt 2))], []) h)) ∧
    (∀ (x0 : Nat) (x1 x2 x3 x4 : Int32) (h : xH), W m_Room_screen (43, [some (.ref x0), some (.int x1), some (.int x2), some (.int x3), some (.int x4)], []) h = xpush W m_Room_screen 47 [some (.ref x0), some (.int x1), some (.int x2), some (.int x3), some (.int x4)] [] h (xfld 0 4 (h.1 x0))) ∧
    (∀ (x0 y0 : Nat) (x1 x2 x3 x4 : Int32) (h : xH), W m_Room_screen (47, [some (.ref x0), some (.int x1), some (.int x2), some (.int x3), some (.int x4)], [(.ref y0)]) h = xpush W m_Room_screen 49 [some (.ref x0), some (.int x1), some (.int x2), some (.int x3), some (.int x4)] [] h (xldR (h.1 y0) x1)) ∧
    (∀ (x0 y0 : Nat) (x1 x2 x3 x4 : Int32) (h : xH), W m_Room_screen (49, [some (.ref x0), some (.int x1), some (.int x2), some (.int x3), some (.int x4)], [(.ref y0)]) h = xret W m_Room_screen 53 56 [some (.ref x0), some (.int x1), some (.int x2), some (.int x3), some (.int x4)] [] (xrc 4 (h.1 y0) (W m_Scr_lay (0, [some (.ref y0), some (.int x2), some (.int x3), some (.int x4), none], []) h))) ∧
    (∀ (x0 : Nat) (x1 x2 x3 x4 : Int32) (h : xH), W m_Room_screen (56, [some (.ref x0), some (.int x1), some (.int x2), some (.int x3), some (.int x4)], []) h = xpush W m_Room_screen 60 [some (.ref x0), some (.int x1), some (.int x2), some (.int x3), some (.int x4)] [] h (xfld 0 4 (h.1 x0))) ∧
    (∀ (x0 y0 : Nat) (x1 x2 x3 x4 : Int32) (h : xH), W m_Room_screen (60, [some (.ref x0), some (.int x1), some (.int x2), some (.int x3), some (.int x4)], [(.ref y0)]) h = xpush W m_Room_screen 62 [some (.ref x0), some (.int x1), some (.int x2), some (.int x3), some (.int x4)] [] h (xldR (h.1 y0) x1)) ∧
    (∀ (x0 y0 : Nat) (x1 x2 x3 x4 : Int32) (h : xH), W m_Room_screen (62, [some (.ref x0), some (.int x1), some (.int x2), some (.int x3), some (.int x4)], [(.ref y0)]) h = xret W m_Room_screen 62 65 [some (.ref x0), some (.int x1), some (.int x2), some (.int x3), some (.int x4)] [] (xrc 4 (h.1 y0) (W m_Scr_classCount (0, [some (.ref y0)], []) h))) ∧
    (∀ (x0 : Nat) (x1 x2 x3 x4 y0 : Int32) (h : xH), W m_Room_screen (65, [some (.ref x0), some (.int x1), some (.int x2), some (.int x3), some (.int x4)], [(.int y0)]) h = some (.inl (some (.int y0)), h)) :=
  ⟨fun _ _ _ _ _ _ => (xW_k hW 3 _ _ _).trans rfl,
   fun _ _ _ _ _ _ => (xW_k hW 4 _ _ _).trans rfl,
   fun _ _ _ _ _ _ => (xW_k hW 4 _ _ _).trans rfl,
   fun _ _ _ _ _ _ => (xW_k hW 10 _ _ _).trans rfl,
   fun _ _ _ _ _ _ => (xW_k hW 4 _ _ _).trans rfl,
   fun _ _ _ _ _ _ => (xW_k hW 2 _ _ _).trans xq_fld,
   fun _ _ _ _ _ _ _ => (xW_k hW 2 _ _ _).trans xq_ldR,
   fun _ _ _ _ _ _ _ => (xW_k hW 4 _ _ _).trans xq_rc,
   fun _ _ _ _ _ _ => (xW_k hW 2 _ _ _).trans xq_fld,
   fun _ _ _ _ _ _ _ => (xW_k hW 2 _ _ _).trans xq_ldR,
   fun _ _ _ _ _ _ _ => (xW_k hW 1 _ _ _).trans xq_rc,
   fun _ _ _ _ _ _ _ => (xW_k hW 1 _ _ _).trans rfl⟩
theorem X_Room_screen : xhs m_Room_screen = [] := rfl
theorem E_Scr_classCount (hW : ∀ M f h, W M f h = xbody V xF0 xG W M f h) :
    (∀ (x0 : Nat) (h : xH), W m_Scr_classCount (0, [some (.ref x0)], []) h = xpush W m_Scr_classCount 4 [some (.ref x0)] [] h (xfld 4 3 (h.1 x0))) ∧
    (∀ (x0 : Nat) (y0 : Int32) (h : xH), W m_Scr_classCount (4, [some (.ref x0)], [(.int y0)]) h = some (.inl (some (.int y0)), h)) :=
  ⟨fun _ _ => (xW_k hW 2 _ _ _).trans xq_fld,
   fun _ _ _ => (xW_k hW 1 _ _ _).trans rfl⟩
theorem X_Scr_classCount : xhs m_Scr_classCount = [] := rfl
theorem E_Law_rank (hW : ∀ M f h, W M f h = xbody V xF0 xG W M f h) :
    (∀ (x0 x4 : Nat) (x1 x2 x3 : Int32) (h : xH), W m_Law_rank (0, [some (.ref x0), some (.int x1), some (.int x2), some (.int x3), some (.ref x4), none], []) h = xret W m_Law_rank 7 10 [some (.ref x0), some (.int x1), some (.int x2), some (.int x3), some (.ref x4), none] [(.int (Int32.ofInt 0)), (.ref x4)] (xrc 0 (h.1 x0) (W m_Room_rank (0, [some (.ref x0), some (.int x1), some (.int x2), some (.int x3)], []) h))) ∧
    (∀ (x0 x4 y2 : Nat) (x1 x2 x3 y0 y1 : Int32) (h : xH), W m_Law_rank (10, [some (.ref x0), some (.int x1), some (.int x2), some (.int x3), some (.ref x4), none], [(.int y0), (.int y1), (.ref y2)]) h = xthn W m_Law_rank 12 [some (.ref x0), some (.int x1), some (.int x2), some (.int x3), some (.ref x4), none] [] (xstL (h.1 y2) h y2 y1 (Int32.toInt64 y0))) ∧
    (∀ (x0 x4 : Nat) (x1 x2 x3 : Int32) (h : xH), W m_Law_rank (12, [some (.ref x0), some (.int x1), some (.int x2), some (.int x3), some (.ref x4), none], []) h = some (.inl (some (.int (Int32.ofInt 0))), h)) ∧
    (∀ (x0 x4 y0 : Nat) (x1 x2 x3 : Int32) (h : xH), W m_Law_rank (15, [some (.ref x0), some (.int x1), some (.int x2), some (.int x3), some (.ref x4), none], [(.ref y0)]) h = some (.inl (some (.int (Int32.ofInt 1))), h)) ∧
    (∀ (x0 x4 y0 : Nat) (x1 x2 x3 : Int32) (h : xH), W m_Law_rank (19, [some (.ref x0), some (.int x1), some (.int x2), some (.int x3), some (.ref x4), none], [(.ref y0)]) h = some (.inl (some (.int (Int32.ofInt 2))), h)) :=
  ⟨fun _ _ _ _ _ _ => (xW_k hW 7 _ _ _).trans xq_rc,
   fun _ _ _ _ _ _ _ _ _ => (xW_k hW 2 _ _ _).trans xq_stL,
   fun _ _ _ _ _ _ => (xW_k hW 3 _ _ _).trans rfl,
   fun _ _ _ _ _ _ _ => (xW_k hW 3 _ _ _).trans rfl,
   fun _ _ _ _ _ _ _ => (xW_k hW 3 _ _ _).trans rfl⟩
theorem E_Room_rank (hW : ∀ M f h, W M f h = xbody V xF0 xG W M f h) :
    (∀ (x0 : Nat) (x1 x2 x3 : Int32) (h : xH), W m_Room_rank (0, [some (.ref x0), some (.int x1), some (.int x2), some (.int x3)], []) h = xret W m_Room_rank 3 6 [some (.ref x0), some (.int x1), some (.int x2), some (.int x3)] [] (W m_Room_needIndex (0, [some (.int x1), some (.int (Int32.ofInt 8))], []) h)) ∧
    (∀ (x0 : Nat) (x1 x2 x3 : Int32) (h : xH), W m_Room_rank (6, [some (.ref x0), some (.int x1), some (.int x2), some (.int x3)], []) h = xret W m_Room_rank 13 16 [some (.ref x0), some (.int x1), some (.int x2), some (.int x3)] [] (W m_Room_needBetween (0, [some (.int x2), some (.int (Int32.ofInt (-1000))), some (.int (Int32.ofInt 1000))], []) h)) ∧
    (∀ (x0 : Nat) (x1 x2 x3 : Int32) (h : xH), W m_Room_rank (16, [some (.ref x0), some (.int x1), some (.int x2), some (.int x3)], []) h = xret W m_Room_rank 23 26 [some (.ref x0), some (.int x1), some (.int x2), some (.int x3)] [] (W m_Room_needBetween (0, [some (.int x3), some (.int (Int32.ofInt (-1000))), some (.int (Int32.ofInt 1000))], []) h)) ∧
    (∀ (x0 : Nat) (x1 x2 x3 : Int32) (h : xH), W m_Room_rank (26, [some (.ref x0), some (.int x1), some (.int x2), some (.int x3)], []) h = xpush W m_Room_rank 30 [some (.ref x0), some (.int x1), some (.int x2), some (.int x3)] [] h (xfld 0 4 (h.1 x0))) ∧
    (∀ (x0 y0 : Nat) (x1 x2 x3 : Int32) (h : xH), W m_Room_rank (30, [some (.ref x0), some (.int x1), some (.int x2), some (.int x3)], [(.ref y0)]) h = xpush W m_Room_rank 32 [some (.ref x0), some (.int x1), some (.int x2), some (.int x3)] [] h (xldR (h.1 y0) x1)) ∧
    (∀ (x0 y0 : Nat) (x1 x2 x3 : Int32) (h : xH), W m_Room_rank (32, [some (.ref x0), some (.int x1), some (.int x2), some (.int x3)], [(.ref y0)]) h = xret W m_Room_rank 34 37 [some (.ref x0), some (.int x1), some (.int x2), some (.int x3)] [] (xrc 4 (h.1 y0) (W m_Scr_rankAt (0, [some (.ref y0), some (.int x2), some (.int x3)], []) h))) ∧
    (∀ (x0 : Nat) (x1 x2 x3 y0 : Int32) (h : xH), W m_Room_rank (37, [some (.ref x0), some (.int x1), some (.int x2), some (.int x3)], [(.int y0)]) h = some (.inl (some (.int y0)), h)) :=
  ⟨fun _ _ _ _ _ => (xW_k hW 3 _ _ _).trans rfl,
   fun _ _ _ _ _ => (xW_k hW 4 _ _ _).trans rfl,
   fun _ _ _ _ _ => (xW_k hW 4 _ _ _).trans rfl,
   fun _ _ _ _ _ => (xW_k hW 2 _ _ _).trans xq_fld,
   fun _ _ _ _ _ _ => (xW_k hW 2 _ _ _).trans xq_ldR,
   fun _ _ _ _ _ _ => (xW_k hW 3 _ _ _).trans xq_rc,
   fun _ _ _ _ _ _ => (xW_k hW 1 _ _ _).trans rfl⟩
theorem X_Room_rank : xhs m_Room_rank = [] := rfl
theorem E_Scr_rankAt (hW : ∀ M f h, W M f h = xbody V xF0 xG W M f h) :
    (∀ (x0 : Nat) (x1 x2 : Int32) (h : xH), W m_Scr_rankAt (0, [some (.ref x0), some (.int x1), some (.int x2)], []) h = xpush W m_Scr_rankAt 4 [some (.ref x0), some (.int x1), some (.int x2)] [] h (xfld 4 1 (h.1 x0))) ∧
    (∀ (x0 y0 : Nat) (x1 x2 : Int32) (h : xH), W m_Scr_rankAt (4, [some (.ref x0), some (.int x1), some (.int x2)], [(.ref y0)]) h = xret W m_Scr_rankAt 7 10 [some (.ref x0), some (.int x1), some (.int x2)] [(.ref y0)] (xrc 4 (h.1 x0) (W m_Scr_classAt (0, [some (.ref x0), some (.int x1), some (.int x2), none, none], []) h))) ∧
    (∀ (x0 y1 : Nat) (x1 x2 y0 : Int32) (h : xH), W m_Scr_rankAt (10, [some (.ref x0), some (.int x1), some (.int x2)], [(.int y0), (.ref y1)]) h = xpush W m_Scr_rankAt 11 [some (.ref x0), some (.int x1), some (.int x2)] [] h (xldI (h.1 y1) y0)) ∧
    (∀ (x0 : Nat) (x1 x2 y0 : Int32) (h : xH), W m_Scr_rankAt (11, [some (.ref x0), some (.int x1), some (.int x2)], [(.int y0)]) h = some (.inl (some (.int y0)), h)) :=
  ⟨fun _ _ _ _ => (xW_k hW 2 _ _ _).trans xq_fld,
   fun _ _ _ _ _ => (xW_k hW 4 _ _ _).trans xq_rc,
   fun _ _ _ _ _ _ => (xW_k hW 1 _ _ _).trans xq_ldI,
   fun _ _ _ _ _ => (xW_k hW 1 _ _ _).trans rfl⟩
theorem X_Scr_rankAt : xhs m_Scr_rankAt = [] := rfl
theorem E_Law_dot (hW : ∀ M f h, W M f h = xbody V xF0 xG W M f h) :
    (∀ (x0 x5 : Nat) (x1 x2 x3 x4 : Int32) (h : xH), W m_Law_dot (0, [some (.ref x0), some (.int x1), some (.int x2), some (.int x3), some (.int x4), some (.ref x5), none], []) h = xret W m_Law_dot 9 12 [some (.ref x0), some (.int x1), some (.int x2), some (.int x3), some (.int x4), some (.ref x5), none] [(.int (Int32.ofInt 0)), (.ref x5)] (xrc 0 (h.1 x0) (W m_Room_dot (0, [some (.ref x0), some (.int x1), some (.int x2), some (.int x3), some (.int x4)], []) h))) ∧
    (∀ (x0 x5 y2 : Nat) (x1 x2 x3 x4 y0 y1 : Int32) (h : xH), W m_Law_dot (12, [some (.ref x0), some (.int x1), some (.int x2), some (.int x3), some (.int x4), some (.ref x5), none], [(.int y0), (.int y1), (.ref y2)]) h = if y0 = (Int32.ofInt 0) then W m_Law_dot (19, [some (.ref x0), some (.int x1), some (.int x2), some (.int x3), some (.int x4), some (.ref x5), none], [(.int y1), (.ref y2)]) h else W m_Law_dot (15, [some (.ref x0), some (.int x1), some (.int x2), some (.int x3), some (.int x4), some (.ref x5), none], [(.int y1), (.ref y2)]) h) ∧
    (∀ (x0 x5 y1 : Nat) (x1 x2 x3 x4 y0 : Int32) (h : xH), W m_Law_dot (15, [some (.ref x0), some (.int x1), some (.int x2), some (.int x3), some (.int x4), some (.ref x5), none], [(.int y0), (.ref y1)]) h = xthn W m_Law_dot 21 [some (.ref x0), some (.int x1), some (.int x2), some (.int x3), some (.int x4), some (.ref x5), none] [] (xstL (h.1 y1) h y1 y0 1)) ∧
    (∀ (x0 x5 y1 : Nat) (x1 x2 x3 x4 y0 : Int32) (h : xH), W m_Law_dot (19, [some (.ref x0), some (.int x1), some (.int x2), some (.int x3), some (.int x4), some (.ref x5), none], [(.int y0), (.ref y1)]) h = xthn W m_Law_dot 21 [some (.ref x0), some (.int x1), some (.int x2), some (.int x3), some (.int x4), some (.ref x5), none] [] (xstL (h.1 y1) h y1 y0 0)) ∧
    (∀ (x0 x5 : Nat) (x1 x2 x3 x4 : Int32) (h : xH), W m_Law_dot (21, [some (.ref x0), some (.int x1), some (.int x2), some (.int x3), some (.int x4), some (.ref x5), none], []) h = some (.inl (some (.int (Int32.ofInt 0))), h)) ∧
    (∀ (x0 x5 y0 : Nat) (x1 x2 x3 x4 : Int32) (h : xH), W m_Law_dot (24, [some (.ref x0), some (.int x1), some (.int x2), some (.int x3), some (.int x4), some (.ref x5), none], [(.ref y0)]) h = some (.inl (some (.int (Int32.ofInt 1))), h)) ∧
    (∀ (x0 x5 y0 : Nat) (x1 x2 x3 x4 : Int32) (h : xH), W m_Law_dot (28, [some (.ref x0), some (.int x1), some (.int x2), some (.int x3), some (.int x4), some (.ref x5), none], [(.ref y0)]) h = some (.inl (some (.int (Int32.ofInt 2))), h)) :=
  ⟨fun _ _ _ _ _ _ _ => (xW_k hW 8 _ _ _).trans xq_rc,
   fun _ _ _ _ _ _ _ _ _ _ => (xW_k hW 1 _ _ _).trans rfl,
   fun _ _ _ _ _ _ _ _ _ => (xW_k hW 3 _ _ _).trans xq_stL,
   fun _ _ _ _ _ _ _ _ _ => (xW_k hW 2 _ _ _).trans xq_stL,
   fun _ _ _ _ _ _ _ => (xW_k hW 3 _ _ _).trans rfl,
   fun _ _ _ _ _ _ _ _ => (xW_k hW 3 _ _ _).trans rfl,
   fun _ _ _ _ _ _ _ _ => (xW_k hW 3 _ _ _).trans rfl⟩
theorem E_Room_dot (hW : ∀ M f h, W M f h = xbody V xF0 xG W M f h) :
    (∀ (x0 : Nat) (x1 x2 x3 x4 : Int32) (h : xH), W m_Room_dot (0, [some (.ref x0), some (.int x1), some (.int x2), some (.int x3), some (.int x4)], []) h = xret W m_Room_dot 3 6 [some (.ref x0), some (.int x1), some (.int x2), some (.int x3), some (.int x4)] [] (W m_Room_needIndex (0, [some (.int x2), some (.int (Int32.ofInt 8))], []) h)) ∧
    (∀ (x0 : Nat) (x1 x2 x3 x4 : Int32) (h : xH), W m_Room_dot (6, [some (.ref x0), some (.int x1), some (.int x2), some (.int x3), some (.int x4)], []) h = xret W m_Room_dot 12 15 [some (.ref x0), some (.int x1), some (.int x2), some (.int x3), some (.int x4)] [(.ref x0)] (xrc 0 (h.1 x0) (W m_Room_madeJob (0, [some (.ref x0), some (.int x1), some (.int x3), some (.int x4)], []) h))) ∧
    (∀ (x0 y0 y1 : Nat) (x1 x2 x3 x4 : Int32) (h : xH), W m_Room_dot (15, [some (.ref x0), some (.int x1), some (.int x2), some (.int x3), some (.int x4)], [(.ref y0), (.ref y1)]) h = xret W m_Room_dot 19 22 [some (.ref x0), some (.int x1), some (.int x2), some (.int x3), some (.int x4)] [] (xrc 0 (h.1 y1) (W m_Room_isPrinted (0, [some (.ref y1), some (.ref y0), some (.int x2), some (.int x3), some (.int x4), none], []) h))) ∧
    (∀ (x0 : Nat) (x1 x2 x3 x4 y0 : Int32) (h : xH), W m_Room_dot (22, [some (.ref x0), some (.int x1), some (.int x2), some (.int x3), some (.int x4)], [(.int y0)]) h = xB (decide (y0 = 0 ∨ y0 = 1)) (some (.inl (some (.int y0)), h))) :=
  ⟨fun _ _ _ _ _ _ => (xW_k hW 3 _ _ _).trans rfl,
   fun _ _ _ _ _ _ => (xW_k hW 6 _ _ _).trans xq_rc,
   fun _ _ _ _ _ _ _ _ => (xW_k hW 4 _ _ _).trans xq_rc,
   fun _ _ _ _ _ _ _ => (xW_k hW 1 _ _ _).trans rfl⟩
theorem X_Room_dot : xhs m_Room_dot = [] := rfl
theorem E_Room_isPrinted (hW : ∀ M f h, W M f h = xbody V xF0 xG W M f h) :
    (∀ (x0 x1 : Nat) (x2 x3 x4 : Int32) (h : xH), W m_Room_isPrinted (0, [some (.ref x0), some (.ref x1), some (.int x2), some (.int x3), some (.int x4), none], []) h = xpush W m_Room_isPrinted 4 [some (.ref x0), some (.ref x1), some (.int x2), some (.int x3), some (.int x4), none] [] h (xfld 0 4 (h.1 x0))) ∧
    (∀ (x0 x1 y0 : Nat) (x2 x3 x4 : Int32) (h : xH), W m_Room_isPrinted (4, [some (.ref x0), some (.ref x1), some (.int x2), some (.int x3), some (.int x4), none], [(.ref y0)]) h = xpush W m_Room_isPrinted 6 [some (.ref x0), some (.ref x1), some (.int x2), some (.int x3), some (.int x4), none] [] h (xldR (h.1 y0) x2)) ∧
    (∀ (x0 x1 y0 : Nat) (x2 x3 x4 : Int32) (h : xH), W m_Room_isPrinted (6, [some (.ref x0), some (.ref x1), some (.int x2), some (.int x3), some (.int x4), none], [(.ref y0)]) h = xret W m_Room_isPrinted 15 18 [some (.ref x0), some (.ref x1), some (.int x2), some (.int x3), some (.int x4), some (.ref y0)] [(.ref y0)] (xrc 4 (h.1 y0) (W m_Scr_rankAt (0, [some (.ref y0), some (.int x3), some (.int x4)], []) h))) ∧
    (∀ (x0 x1 x5 y1 : Nat) (x2 x3 x4 y0 : Int32) (h : xH), W m_Room_isPrinted (18, [some (.ref x0), some (.ref x1), some (.int x2), some (.int x3), some (.int x4), some (.ref x5)], [(.int y0), (.ref y1)]) h = xret W m_Room_isPrinted 22 25 [some (.ref x0), some (.ref x1), some (.int x2), some (.int x3), some (.int x4), some (.ref x5)] [(.ref x1), (.int y0), (.ref y1)] (W m_Room_cellAt (0, [some (.int x3), some (.int x4)], []) h)) ∧
    (∀ (x0 x1 x5 y1 y3 : Nat) (x2 x3 x4 y0 y2 : Int32) (h : xH), W m_Room_isPrinted (25, [some (.ref x0), some (.ref x1), some (.int x2), some (.int x3), some (.int x4), some (.ref x5)], [(.int y0), (.ref y1), (.int y2), (.ref y3)]) h = xret W m_Room_isPrinted 26 29 [some (.ref x0), some (.ref x1), some (.int x2), some (.int x3), some (.int x4), some (.ref x5)] [(.int y2), (.ref y3)] (xrc 1 (h.1 y1) (W m_Job_amountAt (0, [some (.ref y1), some (.int y0), some (.int x2), none], []) h))) ∧
    (∀ (x0 x1 x5 y2 : Nat) (x2 x3 x4 y0 y1 : Int32) (h : xH), W m_Room_isPrinted (29, [some (.ref x0), some (.ref x1), some (.int x2), some (.int x3), some (.int x4), some (.ref x5)], [(.int y0), (.int y1), (.ref y2)]) h = xret W m_Room_isPrinted 29 32 [some (.ref x0), some (.ref x1), some (.int x2), some (.int x3), some (.int x4), some (.ref x5)] [] (xrc 4 (h.1 y2) (W m_Scr_prints (0, [some (.ref y2), some (.int y1), some (.int y0)], []) h))) ∧
    (∀ (x0 x1 x5 : Nat) (x2 x3 x4 y0 : Int32) (h : xH), W m_Room_isPrinted (32, [some (.ref x0), some (.ref x1), some (.int x2), some (.int x3), some (.int x4), some (.ref x5)], [(.int y0)]) h = xB (decide (y0 = 0 ∨ y0 = 1)) (some (.inl (some (.int y0)), h))) :=
  ⟨fun _ _ _ _ _ _ => (xW_k hW 2 _ _ _).trans xq_fld,
   fun _ _ _ _ _ _ _ => (xW_k hW 2 _ _ _).trans xq_ldR,
   fun _ _ _ _ _ _ _ => (xW_k hW 6 _ _ _).trans xq_rc,
   fun _ _ _ _ _ _ _ _ _ => (xW_k hW 4 _ _ _).trans rfl,
   fun _ _ _ _ _ _ _ _ _ _ _ => (xW_k hW 2 _ _ _).trans xq_rc,
   fun _ _ _ _ _ _ _ _ _ _ => (xW_k hW 1 _ _ _).trans xq_rc,
   fun _ _ _ _ _ _ _ _ => (xW_k hW 1 _ _ _).trans rfl⟩
theorem X_Room_isPrinted : xhs m_Room_isPrinted = [] := rfl
theorem E_Scr_prints (hW : ∀ M f h, W M f h = xbody V xF0 xG W M f h) :
    (∀ (x0 : Nat) (x1 x2 : Int32) (h : xH), W m_Scr_prints (0, [some (.ref x0), some (.int x1), some (.int x2)], []) h = xpush W m_Scr_prints 6 [some (.ref x0), some (.int x1), some (.int x2)] [(.int x2), (.int x1)] h (xfld 4 3 (h.1 x0))) ∧
    (∀ (x0 : Nat) (x1 x2 y0 y1 y2 : Int32) (h : xH), W m_Scr_prints (6, [some (.ref x0), some (.int x1), some (.int x2)], [(.int y0), (.int y1), (.int y2)]) h = if (((y1 * y0) + (Int32.ofInt 127)) / (Int32.ofInt 255)) ≤ y2 then W m_Scr_prints (21, [some (.ref x0), some (.int x1), some (.int x2)], []) h else W m_Scr_prints (17, [some (.ref x0), some (.int x1), some (.int x2)], []) h) ∧
    (∀ (x0 : Nat) (x1 x2 : Int32) (h : xH), W m_Scr_prints (17, [some (.ref x0), some (.int x1), some (.int x2)], []) h = some (.inl (some (.int (Int32.ofInt 1))), h)) ∧
    (∀ (x0 : Nat) (x1 x2 : Int32) (h : xH), W m_Scr_prints (21, [some (.ref x0), some (.int x1), some (.int x2)], []) h = some (.inl (some (.int (Int32.ofInt 0))), h)) :=
  ⟨fun _ _ _ _ => (xW_k hW 4 _ _ _).trans xq_fld,
   fun _ _ _ _ _ _ _ => (xW_k hW 6 _ _ _).trans rfl,
   fun _ _ _ _ => (xW_k hW 3 _ _ _).trans rfl,
   fun _ _ _ _ => (xW_k hW 2 _ _ _).trans rfl⟩
theorem X_Scr_prints : xhs m_Scr_prints = [] := rfl
theorem E_Law_share (hW : ∀ M f h, W M f h = xbody V xF0 xG W M f h) :
    (∀ (x0 x5 : Nat) (x1 x2 x3 x4 : Int32) (h : xH), W m_Law_share (0, [some (.ref x0), some (.int x1), some (.int x2), some (.int x3), some (.int x4), some (.ref x5), none], []) h = xret W m_Law_share 9 12 [some (.ref x0), some (.int x1), some (.int x2), some (.int x3), some (.int x4), some (.ref x5), none] [(.int (Int32.ofInt 0)), (.ref x5)] (xrc 0 (h.1 x0) (W m_Room_share (0, [some (.ref x0), some (.int x1), some (.int x2), some (.int x3), some (.int x4), none, none, none, none, none, none, none, none, none], []) h))) ∧
    (∀ (x0 x5 y2 : Nat) (x1 x2 x3 x4 y0 y1 : Int32) (h : xH), W m_Law_share (12, [some (.ref x0), some (.int x1), some (.int x2), some (.int x3), some (.int x4), some (.ref x5), none], [(.int y0), (.int y1), (.ref y2)]) h = xthn W m_Law_share 14 [some (.ref x0), some (.int x1), some (.int x2), some (.int x3), some (.int x4), some (.ref x5), none] [] (xstL (h.1 y2) h y2 y1 (Int32.toInt64 y0))) ∧
    (∀ (x0 x5 : Nat) (x1 x2 x3 x4 : Int32) (h : xH), W m_Law_share (14, [some (.ref x0), some (.int x1), some (.int x2), some (.int x3), some (.int x4), some (.ref x5), none], []) h = some (.inl (some (.int (Int32.ofInt 0))), h)) ∧
    (∀ (x0 x5 y0 : Nat) (x1 x2 x3 x4 : Int32) (h : xH), W m_Law_share (17, [some (.ref x0), some (.int x1), some (.int x2), some (.int x3), some (.int x4), some (.ref x5), none], [(.ref y0)]) h = some (.inl (some (.int (Int32.ofInt 1))), h)) ∧
    (∀ (x0 x5 y0 : Nat) (x1 x2 x3 x4 : Int32) (h : xH), W m_Law_share (21, [some (.ref x0), some (.int x1), some (.int x2), some (.int x3), some (.int x4), some (.ref x5), none], [(.ref y0)]) h = some (.inl (some (.int (Int32.ofInt 2))), h)) :=
  ⟨fun _ _ _ _ _ _ _ => (xW_k hW 8 _ _ _).trans xq_rc,
   fun _ _ _ _ _ _ _ _ _ _ => (xW_k hW 2 _ _ _).trans xq_stL,
   fun _ _ _ _ _ _ _ => (xW_k hW 3 _ _ _).trans rfl,
   fun _ _ _ _ _ _ _ _ => (xW_k hW 3 _ _ _).trans rfl,
   fun _ _ _ _ _ _ _ _ => (xW_k hW 3 _ _ _).trans rfl⟩
theorem E_Room_share (hW : ∀ M f h, W M f h = xbody V xF0 xG W M f h) :
    (∀ (x0 : Nat) (x1 x2 x3 x4 : Int32) (h : xH), W m_Room_share (0, [some (.ref x0), some (.int x1), some (.int x2), some (.int x3), some (.int x4), none, none, none, none, none, none, none, none, none], []) h = xret W m_Room_share 3 6 [some (.ref x0), some (.int x1), some (.int x2), some (.int x3), some (.int x4), none, none, none, none, none, none, none, none, none] [] (W m_Room_needIndex (0, [some (.int x2), some (.int (Int32.ofInt 8))], []) h)) ∧
    (∀ (x0 : Nat) (x1 x2 x3 x4 : Int32) (h : xH), W m_Room_share (6, [some (.ref x0), some (.int x1), some (.int x2), some (.int x3), some (.int x4), none, none, none, none, none, none, none, none, none], []) h = xret W m_Room_share 11 14 [some (.ref x0), some (.int x1), some (.int x2), some (.int x3), some (.int x4), none, none, none, none, none, none, none, none, none] [] (xrc 0 (h.1 x0) (W m_Room_madeJob (0, [some (.ref x0), some (.int x1), some (.int x3), some (.int x4)], []) h))) ∧
    (∀ (x0 y0 : Nat) (x1 x2 x3 x4 : Int32) (h : xH), W m_Room_share (14, [some (.ref x0), some (.int x1), some (.int x2), some (.int x3), some (.int x4), none, none, none, none, none, none, none, none, none], [(.ref y0)]) h = xpush W m_Room_share 20 [some (.ref x0), some (.int x1), some (.int x2), some (.int x3), some (.int x4), some (.ref y0), none, none, none, none, none, none, none, none] [] h (xfld 0 4 (h.1 x0))) ∧
    (∀ (x0 x5 y0 : Nat) (x1 x2 x3 x4 : Int32) (h : xH), W m_Room_share (20, [some (.ref x0), some (.int x1), some (.int x2), some (.int x3), some (.int x4), some (.ref x5), none, none, none, none, none, none, none, none], [(.ref y0)]) h = xpush W m_Room_share 22 [some (.ref x0), some (.int x1), some (.int x2), some (.int x3), some (.int x4), some (.ref x5), none, none, none, none, none, none, none, none] [] h (xldR (h.1 y0) x2)) ∧
    (∀ (x0 x5 y0 : Nat) (x1 x2 x3 x4 : Int32) (h : xH), W m_Room_share (22, [some (.ref x0), some (.int x1), some (.int x2), some (.int x3), some (.int x4), some (.ref x5), none, none, none, none, none, none, none, none], [(.ref y0)]) h = xret W m_Room_share 29 32 [some (.ref x0), some (.int x1), some (.int x2), some (.int x3), some (.int x4), some (.ref x5), some (.ref y0), none, none, none, none, none, none, none] [] (xrc 4 (h.1 y0) (W m_Scr_rankAt (0, [some (.ref y0), some (.int x3), some (.int x4)], []) h))) ∧
    (∀ (x0 x5 x6 : Nat) (x1 x2 x3 x4 y0 : Int32) (h : xH), W m_Room_share (32, [some (.ref x0), some (.int x1), some (.int x2), some (.int x3), some (.int x4), some (.ref x5), some (.ref x6), none, none, none, none, none, none, none], [(.int y0)]) h = xret W m_Room_share 39 42 [some (.ref x0), some (.int x1), some (.int x2), some (.int x3), some (.int x4), some (.ref x5), some (.ref x6), some (.int y0), none, none, none, none, none, none] [(.int x3)] (xrc 4 (h.1 x6) (W m_Scr_heartX (0, [some (.ref x6), some (.int y0)], []) h))) ∧
    (∀ (x0 x5 x6 : Nat) (x1 x2 x3 x4 x7 y0 y1 : Int32) (h : xH), W m_Room_share (42, [some (.ref x0), some (.int x1), some (.int x2), some (.int x3), some (.int x4), some (.ref x5), some (.ref x6), some (.int x7), none, none, none, none, none, none], [(.int y0), (.int y1)]) h = xret W m_Room_share 51 54 [some (.ref x0), some (.int x1), some (.int x2), some (.int x3), some (.int x4), some (.ref x5), some (.ref x6), some (.int x7), some (.int (y1 - y0)), none, none, none, none, none] [(.int x4)] (xrc 4 (h.1 x6) (W m_Scr_heartY (0, [some (.ref x6), some (.int x7)], []) h))) ∧
    (∀ (x0 x5 x6 : Nat) (x1 x2 x3 x4 x7 x8 y0 y1 : Int32) (h : xH), W m_Room_share (54, [some (.ref x0), some (.int x1), some (.int x2), some (.int x3), some (.int x4), some (.ref x5), some (.ref x6), some (.int x7), some (.int x8), none, none, none, none, none], [(.int y0), (.int y1)]) h = W m_Room_share (63, [some (.ref x0), some (.int x1), some (.int x2), some (.int x3), some (.int x4), some (.ref x5), some (.ref x6), some (.int x7), some (.int x8), some (.int (y1 - y0)), some (.int (Int32.ofInt 0)), some (.int (Int32.ofInt 0)), none, none], []) h) ∧
    (∀ (x0 x5 x6 : Nat) (x1 x2 x3 x4 x7 x8 x9 x10 x11 y0 y1 : Int32) (x12 x13 : Option Value) (h : xH), W m_Room_share (70, [some (.ref x0), some (.int x1), some (.int x2), some (.int x3), some (.int x4), some (.ref x5), some (.ref x6), some (.int x7), some (.int x8), some (.int x9), some (.int x10), some (.int x11), x12, x13], [(.int y0), (.int y1)]) h = if y0 ≤ y1 then W m_Room_share (141, [some (.ref x0), some (.int x1), some (.int x2), some (.int x3), some (.int x4), some (.ref x5), some (.ref x6), some (.int x7), some (.int x8), some (.int x9), some (.int x10), some (.int x11), x12, x13], []) h else W m_Room_share (73, [some (.ref x0), some (.int x1), some (.int x2), some (.int x3), some (.int x4), some (.ref x5), some (.ref x6), some (.int x7), some (.int x8), some (.int x9), some (.int x10), some (.int x11), x12, x13], []) h) ∧
    (∀ (x0 x5 x6 : Nat) (x1 x2 x3 x4 x7 x8 x9 x10 x11 : Int32) (x12 x13 : Option Value) (h : xH), W m_Room_share (73, [some (.ref x0), some (.int x1), some (.int x2), some (.int x3), some (.int x4), some (.ref x5), some (.ref x6), some (.int x7), some (.int x8), some (.int x9), some (.int x10), some (.int x11), x12, x13], []) h = xret W m_Room_share 77 80 [some (.ref x0), some (.int x1), some (.int x2), some (.int x3), some (.int x4), some (.ref x5), some (.ref x6), some (.int x7), some (.int x8), some (.int x9), some (.int x10), some (.int x11), x12, x13] [] (xrc 4 (h.1 x6) (W m_Scr_heartX (0, [some (.ref x6), some (.int x11)], []) h))) ∧
    (∀ (x0 x5 x6 : Nat) (x1 x2 x3 x4 x7 x8 x9 x10 x11 y0 : Int32) (x12 x13 : Option Value) (h : xH), W m_Room_share (80, [some (.ref x0), some (.int x1), some (.int x2), some (.int x3), some (.int x4), some (.ref x5), some (.ref x6), some (.int x7), some (.int x8), some (.int x9), some (.int x10), some (.int x11), x12, x13], [(.int y0)]) h = xret W m_Room_share 89 92 [some (.ref x0), some (.int x1), some (.int x2), some (.int x3), some (.int x4), some (.ref x5), some (.ref x6), some (.int x7), some (.int x8), some (.int x9), some (.int x10), some (.int x11), some (.int (y0 + x8)), x13] [] (xrc 4 (h.1 x6) (W m_Scr_heartY (0, [some (.ref x6), some (.int x11)], []) h))) ∧
    (∀ (x0 x5 x6 : Nat) (x1 x2 x3 x4 x7 x8 x9 x10 x11 x12 y0 : Int32) (x13 : Option Value) (h : xH), W m_Room_share (92, [some (.ref x0), some (.int x1), some (.int x2), some (.int x3), some (.int x4), some (.ref x5), some (.ref x6), some (.int x7), some (.int x8), some (.int x9), some (.int x10), some (.int x11), some (.int x12), x13], [(.int y0)]) h = xret W m_Room_share 101 104 [some (.ref x0), some (.int x1), some (.int x2), some (.int x3), some (.int x4), some (.ref x5), some (.ref x6), some (.int x7), some (.int x8), some (.int x9), some (.int x10), some (.int x11), some (.int x12), some (.int (y0 + x9))] [] (W m_Room_isOnPage (0, [some (.int x12), some (.int (y0 + x9))], []) h)) ∧
    (∀ (x0 x5 x6 : Nat) (x1 x2 x3 x4 x7 x8 x9 x10 x11 x12 x13 y0 : Int32) (h : xH), W m_Room_share (104, [some (.ref x0), some (.int x1), some (.int x2), some (.int x3), some (.int x4), some (.ref x5), some (.ref x6), some (.int x7), some (.int x8), some (.int x9), some (.int x10), some (.int x11), some (.int x12), some (.int x13)], [(.int y0)]) h = if y0 = (Int32.ofInt 0) then W m_Room_share (107, [some (.ref x0), some (.int x1), some (.int x2), some (.int x3), some (.int x4), some (.ref x5), some (.ref x6), some (.int x7), some (.int x8), some (.int x9), some (.int x10), some (.int x11), some (.int x12), some (.int x13)], []) h else W m_Room_share (109, [some (.ref x0), some (.int x1), some (.int x2), some (.int x3), some (.int x4), some (.ref x5), some (.ref x6), some (.int x7), some (.int x8), some (.int x9), some (.int x10), some (.int x11), some (.int x12), some (.int x13)], []) h) ∧
    (∀ (x0 x5 x6 : Nat) (x1 x2 x3 x4 x7 x8 x9 x10 x11 x12 x13 : Int32) (h : xH), W m_Room_share (107, [some (.ref x0), some (.int x1), some (.int x2), some (.int x3), some (.int x4), some (.ref x5), some (.ref x6), some (.int x7), some (.int x8), some (.int x9), some (.int x10), some (.int x11), some (.int x12), some (.int x13)], []) h = some (.inl (some (.int (Int32.ofInt (-1)))), h)) ∧
    (∀ (x0 x5 x6 : Nat) (x1 x2 x3 x4 x7 x8 x9 x10 x11 x12 x13 : Int32) (h : xH), W m_Room_share (109, [some (.ref x0), some (.int x1), some (.int x2), some (.int x3), some (.int x4), some (.ref x5), some (.ref x6), some (.int x7), some (.int x8), some (.int x9), some (.int x10), some (.int x11), some (.int x12), some (.int x13)], []) h = xret W m_Room_share 119 122 [some (.ref x0), some (.int x1), some (.int x2), some (.int x3), some (.int x4), some (.ref x5), some (.ref x6), some (.int x7), some (.int x8), some (.int x9), some (.int x10), some (.int x11), some (.int x12), some (.int x13)] [(.ref x5), (.int x11), (.ref x6)] (W m_Room_cellAt (0, [some (.int x12), some (.int x13)], []) h)) ∧
    (∀ (x0 x5 x6 y1 y3 : Nat) (x1 x2 x3 x4 x7 x8 x9 x10 x11 x12 x13 y0 y2 : Int32) (h : xH), W m_Room_share (122, [some (.ref x0), some (.int x1), some (.int x2), some (.int x3), some (.int x4), some (.ref x5), some (.ref x6), some (.int x7), some (.int x8), some (.int x9), some (.int x10), some (.int x11), some (.int x12), some (.int x13)], [(.int y0), (.ref y1), (.int y2), (.ref y3)]) h = xret W m_Room_share 123 126 [some (.ref x0), some (.int x1), some (.int x2), some (.int x3), some (.int x4), some (.ref x5), some (.ref x6), some (.int x7), some (.int x8), some (.int x9), some (.int x10), some (.int x11), some (.int x12), some (.int x13)] [(.int y2), (.ref y3)] (xrc 1 (h.1 y1) (W m_Job_amountAt (0, [some (.ref y1), some (.int y0), some (.int x2), none], []) h))) ∧
    (∀ (x0 x5 x6 y2 : Nat) (x1 x2 x3 x4 x7 x8 x9 x10 x11 x12 x13 y0 y1 : Int32) (h : xH), W m_Room_share (126, [some (.ref x0), some (.int x1), some (.int x2), some (.int x3), some (.int x4), some (.ref x5), some (.ref x6), some (.int x7), some (.int x8), some (.int x9), some (.int x10), some (.int x11), some (.int x12), some (.int x13)], [(.int y0), (.int y1), (.ref y2)]) h = xret W m_Room_share 126 129 [some (.ref x0), some (.int x1), some (.int x2), some (.int x3), some (.int x4), some (.ref x5), some (.ref x6), some (.int x7), some (.int x8), some (.int x9), some (.int x10), some (.int x11), some (.int x12), some (.int x13)] [] (xrc 4 (h.1 y2) (W m_Scr_prints (0, [some (.ref y2), some (.int y1), some (.int y0)], []) h))) ∧
    (∀ (x0 x5 x6 : Nat) (x1 x2 x3 x4 x7 x8 x9 x10 x11 x12 x13 y0 : Int32) (h : xH), W m_Room_share (129, [some (.ref x0), some (.int x1), some (.int x2), some (.int x3), some (.int x4), some (.ref x5), some (.ref x6), some (.int x7), some (.int x8), some (.int x9), some (.int x10), some (.int x11), some (.int x12), some (.int x13)], [(.int y0)]) h = if y0 = (Int32.ofInt 0) then W m_Room_share (135, [some (.ref x0), some (.int x1), some (.int x2), some (.int x3), some (.int x4), some (.ref x5), some (.ref x6), some (.int x7), some (.int x8), some (.int x9), some (.int x10), some (.int x11), some (.int x12), some (.int x13)], []) h else W m_Room_share (132, [some (.ref x0), some (.int x1), some (.int x2), some (.int x3), some (.int x4), some (.ref x5), some (.ref x6), some (.int x7), some (.int x8), some (.int x9), some (.int x10), some (.int x11), some (.int x12), some (.int x13)], []) h) ∧
    (∀ (x0 x5 x6 : Nat) (x1 x2 x3 x4 x7 x8 x9 x10 x11 x12 x13 : Int32) (h : xH), W m_Room_share (132, [some (.ref x0), some (.int x1), some (.int x2), some (.int x3), some (.int x4), some (.ref x5), some (.ref x6), some (.int x7), some (.int x8), some (.int x9), some (.int x10), some (.int x11), some (.int x12), some (.int x13)], []) h = W m_Room_share (63, [some (.ref x0), some (.int x1), some (.int x2), some (.int x3), some (.int x4), some (.ref x5), some (.ref x6), some (.int x7), some (.int x8), some (.int x9), some (.int (x10 + (Int32.ofInt 1))), some (.int (x11 + (Int32.ofInt 1))), some (.int x12), some (.int x13)], []) h) ∧
    (∀ (x0 x5 x6 : Nat) (x1 x2 x3 x4 x7 x8 x9 x10 x11 x12 x13 : Int32) (h : xH), W m_Room_share (135, [some (.ref x0), some (.int x1), some (.int x2), some (.int x3), some (.int x4), some (.ref x5), some (.ref x6), some (.int x7), some (.int x8), some (.int x9), some (.int x10), some (.int x11), some (.int x12), some (.int x13)], []) h = W m_Room_share (63, [some (.ref x0), some (.int x1), some (.int x2), some (.int x3), some (.int x4), some (.ref x5), some (.ref x6), some (.int x7), some (.int x8), some (.int x9), some (.int x10), some (.int (x11 + (Int32.ofInt 1))), some (.int x12), some (.int x13)], []) h) ∧
    (∀ (x0 x5 x6 : Nat) (x1 x2 x3 x4 x7 x8 x9 x10 x11 : Int32) (x12 x13 : Option Value) (h : xH), W m_Room_share (141, [some (.ref x0), some (.int x1), some (.int x2), some (.int x3), some (.int x4), some (.ref x5), some (.ref x6), some (.int x7), some (.int x8), some (.int x9), some (.int x10), some (.int x11), x12, x13], []) h = some (.inl (some (.int x10)), h)) :=
  ⟨fun _ _ _ _ _ _ => (xW_k hW 3 _ _ _).trans rfl,
   fun _ _ _ _ _ _ => (xW_k hW 5 _ _ _).trans xq_rc,
   fun _ _ _ _ _ _ _ => (xW_k hW 3 _ _ _).trans xq_fld,
   fun _ _ _ _ _ _ _ _ => (xW_k hW 2 _ _ _).trans xq_ldR,
   fun _ _ _ _ _ _ _ _ => (xW_k hW 5 _ _ _).trans xq_rc,
   fun _ _ _ _ _ _ _ _ _ => (xW_k hW 5 _ _ _).trans xq_rc,
   fun _ _ _ _ _ _ _ _ _ _ _ => (xW_k hW 6 _ _ _).trans xq_rc,
   fun _ _ _ _ _ _ _ _ _ _ _ _ => (xW_k hW 6 _ _ _).trans rfl,
   fun _ _ _ _ _ _ _ _ _ _ _ _ _ _ _ _ _ => (xW_k hW 1 _ _ _).trans rfl,
   fun _ _ _ _ _ _ _ _ _ _ _ _ _ _ _ => (xW_k hW 3 _ _ _).trans xq_rc,
   fun _ _ _ _ _ _ _ _ _ _ _ _ _ _ _ _ => (xW_k hW 6 _ _ _).trans xq_rc,
   fun _ _ _ _ _ _ _ _ _ _ _ _ _ _ _ _ => (xW_k hW 6 _ _ _).trans rfl,
   fun _ _ _ _ _ _ _ _ _ _ _ _ _ _ _ _ => (xW_k hW 1 _ _ _).trans rfl,
   fun _ _ _ _ _ _ _ _ _ _ _ _ _ _ _ => (xW_k hW 2 _ _ _).trans rfl,
   fun _ _ _ _ _ _ _ _ _ _ _ _ _ _ _ => (xW_k hW 6 _ _ _).trans rfl,
   fun _ _ _ _ _ _ _ _ _ _ _ _ _ _ _ _ _ _ _ => (xW_k hW 2 _ _ _).trans xq_rc,
   fun _ _ _ _ _ _ _ _ _ _ _ _ _ _ _ _ _ _ => (xW_k hW 1 _ _ _).trans xq_rc,
   fun _ _ _ _ _ _ _ _ _ _ _ _ _ _ _ _ => (xW_k hW 1 _ _ _).trans rfl,
   fun _ _ _ _ _ _ _ _ _ _ _ _ _ _ _ => (xW_k hW 3 _ _ _).trans rfl,
   fun _ _ _ _ _ _ _ _ _ _ _ _ _ _ _ => (xW_k hW 2 _ _ _).trans rfl,
   fun _ _ _ _ _ _ _ _ _ _ _ _ _ _ _ => (xW_k hW 2 _ _ _).trans rfl⟩
theorem L_Room_share_63 (hW : ∀ M f h, W M f h = xbody V xF0 xG W M f h) :
    (∀ (x0 x5 x6 : Nat) (x1 x2 x3 x4 x7 x8 x9 x10 x11 : Int32) (x12 x13 : Option Value) (h : xH), W m_Room_share (63, [some (.ref x0), some (.int x1), some (.int x2), some (.int x3), some (.int x4), some (.ref x5), some (.ref x6), some (.int x7), some (.int x8), some (.int x9), some (.int x10), some (.int x11), x12, x13], []) h = xret W m_Room_share 67 70 [some (.ref x0), some (.int x1), some (.int x2), some (.int x3), some (.int x4), some (.ref x5), some (.ref x6), some (.int x7), some (.int x8), some (.int x9), some (.int x10), some (.int x11), x12, x13] [(.int x11)] (xrc 4 (h.1 x6) (W m_Scr_classCount (0, [some (.ref x6)], []) h))) :=
  fun _ _ _ _ _ _ _ _ _ _ _ _ _ _ _ => (xW_k hW 3 _ _ _).trans xq_rc
theorem X_Room_share : xhs m_Room_share = [] := rfl
theorem E_Scr_heartX (hW : ∀ M f h, W M f h = xbody V xF0 xG W M f h) :
    (∀ (x0 : Nat) (x1 : Int32) (h : xH), W m_Scr_heartX (0, [some (.ref x0), some (.int x1)], []) h = xpush W m_Scr_heartX 4 [some (.ref x0), some (.int x1)] [] h (xfld 4 2 (h.1 x0))) ∧
    (∀ (x0 y0 : Nat) (x1 : Int32) (h : xH), W m_Scr_heartX (4, [some (.ref x0), some (.int x1)], [(.ref y0)]) h = xpush W m_Scr_heartX 6 [some (.ref x0), some (.int x1)] [] h (xldI (h.1 y0) x1)) ∧
    (∀ (x0 : Nat) (x1 y0 : Int32) (h : xH), W m_Scr_heartX (6, [some (.ref x0), some (.int x1)], [(.int y0)]) h = xret W m_Scr_heartX 6 9 [some (.ref x0), some (.int x1)] [] (W m_Pla_xOf (0, [some (.int y0)], []) h)) ∧
    (∀ (x0 : Nat) (x1 y0 : Int32) (h : xH), W m_Scr_heartX (9, [some (.ref x0), some (.int x1)], [(.int y0)]) h = some (.inl (some (.int y0)), h)) :=
  ⟨fun _ _ _ => (xW_k hW 2 _ _ _).trans xq_fld,
   fun _ _ _ _ => (xW_k hW 2 _ _ _).trans xq_ldI,
   fun _ _ _ _ => (xW_k hW 1 _ _ _).trans rfl,
   fun _ _ _ _ => (xW_k hW 1 _ _ _).trans rfl⟩
theorem X_Scr_heartX : xhs m_Scr_heartX = [] := rfl
theorem E_Scr_heartY (hW : ∀ M f h, W M f h = xbody V xF0 xG W M f h) :
    (∀ (x0 : Nat) (x1 : Int32) (h : xH), W m_Scr_heartY (0, [some (.ref x0), some (.int x1)], []) h = xpush W m_Scr_heartY 4 [some (.ref x0), some (.int x1)] [] h (xfld 4 2 (h.1 x0))) ∧
    (∀ (x0 y0 : Nat) (x1 : Int32) (h : xH), W m_Scr_heartY (4, [some (.ref x0), some (.int x1)], [(.ref y0)]) h = xpush W m_Scr_heartY 6 [some (.ref x0), some (.int x1)] [] h (xldI (h.1 y0) x1)) ∧
    (∀ (x0 : Nat) (x1 y0 : Int32) (h : xH), W m_Scr_heartY (6, [some (.ref x0), some (.int x1)], [(.int y0)]) h = xret W m_Scr_heartY 6 9 [some (.ref x0), some (.int x1)] [] (W m_Pla_yOf (0, [some (.int y0)], []) h)) ∧
    (∀ (x0 : Nat) (x1 y0 : Int32) (h : xH), W m_Scr_heartY (9, [some (.ref x0), some (.int x1)], [(.int y0)]) h = some (.inl (some (.int y0)), h)) :=
  ⟨fun _ _ _ => (xW_k hW 2 _ _ _).trans xq_fld,
   fun _ _ _ _ => (xW_k hW 2 _ _ _).trans xq_ldI,
   fun _ _ _ _ => (xW_k hW 1 _ _ _).trans rfl,
   fun _ _ _ _ => (xW_k hW 1 _ _ _).trans rfl⟩
theorem X_Scr_heartY : xhs m_Scr_heartY = [] := rfl
theorem E_Room_isOnPage (hW : ∀ M f h, W M f h = xbody V xF0 xG W M f h) :
    (∀ (x0 x1 : Int32) (h : xH), W m_Room_isOnPage (0, [some (.int x0), some (.int x1)], []) h = if x0 < (Int32.ofInt 0) then W m_Room_isOnPage (24, [some (.int x0), some (.int x1)], []) h else W m_Room_isOnPage (4, [some (.int x0), some (.int x1)], []) h) ∧
    (∀ (x0 x1 : Int32) (h : xH), W m_Room_isOnPage (4, [some (.int x0), some (.int x1)], []) h = if (Int32.ofInt 48) ≤ x0 then W m_Room_isOnPage (24, [some (.int x0), some (.int x1)], []) h else W m_Room_isOnPage (10, [some (.int x0), some (.int x1)], []) h) ∧
    (∀ (x0 x1 : Int32) (h : xH), W m_Room_isOnPage (10, [some (.int x0), some (.int x1)], []) h = if x1 < (Int32.ofInt 0) then W m_Room_isOnPage (24, [some (.int x0), some (.int x1)], []) h else W m_Room_isOnPage (14, [some (.int x0), some (.int x1)], []) h) ∧
    (∀ (x0 x1 : Int32) (h : xH), W m_Room_isOnPage (14, [some (.int x0), some (.int x1)], []) h = if (Int32.ofInt 64) ≤ x1 then W m_Room_isOnPage (24, [some (.int x0), some (.int x1)], []) h else W m_Room_isOnPage (20, [some (.int x0), some (.int x1)], []) h) ∧
    (∀ (x0 x1 : Int32) (h : xH), W m_Room_isOnPage (20, [some (.int x0), some (.int x1)], []) h = some (.inl (some (.int (Int32.ofInt 1))), h)) ∧
    (∀ (x0 x1 : Int32) (h : xH), W m_Room_isOnPage (24, [some (.int x0), some (.int x1)], []) h = some (.inl (some (.int (Int32.ofInt 0))), h)) :=
  ⟨fun _ _ _ => (xW_k hW 2 _ _ _).trans rfl,
   fun _ _ _ => (xW_k hW 3 _ _ _).trans rfl,
   fun _ _ _ => (xW_k hW 2 _ _ _).trans rfl,
   fun _ _ _ => (xW_k hW 3 _ _ _).trans rfl,
   fun _ _ _ => (xW_k hW 3 _ _ _).trans rfl,
   fun _ _ _ => (xW_k hW 2 _ _ _).trans rfl⟩
theorem X_Room_isOnPage : xhs m_Room_isOnPage = [] := rfl
theorem E_Law_proof (hW : ∀ M f h, W M f h = xbody V xF0 xG W M f h) :
    (∀ (x0 x4 : Nat) (x1 x2 x3 : Int32) (h : xH), W m_Law_proof (0, [some (.ref x0), some (.int x1), some (.int x2), some (.int x3), some (.ref x4), none], []) h = xret W m_Law_proof 7 10 [some (.ref x0), some (.int x1), some (.int x2), some (.int x3), some (.ref x4), none] [(.int (Int32.ofInt 0)), (.ref x4)] (xrc 0 (h.1 x0) (W m_Room_proof (0, [some (.ref x0), some (.int x1), some (.int x2), some (.int x3), none, none, none], []) h))) ∧
    (∀ (x0 x4 y2 : Nat) (x1 x2 x3 y0 y1 : Int32) (h : xH), W m_Law_proof (10, [some (.ref x0), some (.int x1), some (.int x2), some (.int x3), some (.ref x4), none], [(.int y0), (.int y1), (.ref y2)]) h = xthn W m_Law_proof 12 [some (.ref x0), some (.int x1), some (.int x2), some (.int x3), some (.ref x4), none] [] (xstL (h.1 y2) h y2 y1 (Int32.toInt64 y0))) ∧
    (∀ (x0 x4 : Nat) (x1 x2 x3 : Int32) (h : xH), W m_Law_proof (12, [some (.ref x0), some (.int x1), some (.int x2), some (.int x3), some (.ref x4), none], []) h = some (.inl (some (.int (Int32.ofInt 0))), h)) ∧
    (∀ (x0 x4 y0 : Nat) (x1 x2 x3 : Int32) (h : xH), W m_Law_proof (15, [some (.ref x0), some (.int x1), some (.int x2), some (.int x3), some (.ref x4), none], [(.ref y0)]) h = some (.inl (some (.int (Int32.ofInt 1))), h)) ∧
    (∀ (x0 x4 y0 : Nat) (x1 x2 x3 : Int32) (h : xH), W m_Law_proof (19, [some (.ref x0), some (.int x1), some (.int x2), some (.int x3), some (.ref x4), none], [(.ref y0)]) h = some (.inl (some (.int (Int32.ofInt 2))), h)) :=
  ⟨fun _ _ _ _ _ _ => (xW_k hW 7 _ _ _).trans xq_rc,
   fun _ _ _ _ _ _ _ _ _ => (xW_k hW 2 _ _ _).trans xq_stL,
   fun _ _ _ _ _ _ => (xW_k hW 3 _ _ _).trans rfl,
   fun _ _ _ _ _ _ _ => (xW_k hW 3 _ _ _).trans rfl,
   fun _ _ _ _ _ _ _ => (xW_k hW 3 _ _ _).trans rfl⟩
theorem E_Room_proof (hW : ∀ M f h, W M f h = xbody V xF0 xG W M f h) :
    (∀ (x0 : Nat) (x1 x2 x3 : Int32) (h : xH), W m_Room_proof (0, [some (.ref x0), some (.int x1), some (.int x2), some (.int x3), none, none, none], []) h = xret W m_Room_proof 4 7 [some (.ref x0), some (.int x1), some (.int x2), some (.int x3), none, none, none] [] (xrc 0 (h.1 x0) (W m_Room_madeJob (0, [some (.ref x0), some (.int x1), some (.int x2), some (.int x3)], []) h))) ∧
    (∀ (x0 y0 : Nat) (x1 x2 x3 : Int32) (h : xH), W m_Room_proof (7, [some (.ref x0), some (.int x1), some (.int x2), some (.int x3), none, none, none], [(.ref y0)]) h = W m_Room_proof (15, [some (.ref x0), some (.int x1), some (.int x2), some (.int x3), some (.ref y0), some (.int (Int32.ofInt 0)), some (.int (Int32.ofInt 0))], []) h) ∧
    (∀ (x0 x4 : Nat) (x1 x2 x3 x5 x6 : Int32) (h : xH), W m_Room_proof (22, [some (.ref x0), some (.int x1), some (.int x2), some (.int x3), some (.ref x4), some (.int x5), some (.int x6)], []) h = xret W m_Room_proof 29 32 [some (.ref x0), some (.int x1), some (.int x2), some (.int x3), some (.ref x4), some (.int x5), some (.int x6)] [] (xrc 0 (h.1 x0) (W m_Room_isPrinted (0, [some (.ref x0), some (.ref x4), some (.int x6), some (.int x2), some (.int x3), none], []) h))) ∧
    (∀ (x0 x4 : Nat) (x1 x2 x3 x5 x6 y0 : Int32) (h : xH), W m_Room_proof (32, [some (.ref x0), some (.int x1), some (.int x2), some (.int x3), some (.ref x4), some (.int x5), some (.int x6)], [(.int y0)]) h = if y0 = (Int32.ofInt 0) then W m_Room_proof (44, [some (.ref x0), some (.int x1), some (.int x2), some (.int x3), some (.ref x4), some (.int x5), some (.int x6)], []) h else W m_Room_proof (35, [some (.ref x0), some (.int x1), some (.int x2), some (.int x3), some (.ref x4), some (.int x5), some (.int x6)], []) h) ∧
    (∀ (x0 x4 : Nat) (x1 x2 x3 x5 x6 : Int32) (h : xH), W m_Room_proof (35, [some (.ref x0), some (.int x1), some (.int x2), some (.int x3), some (.ref x4), some (.int x5), some (.int x6)], []) h = W m_Room_proof (15, [some (.ref x0), some (.int x1), some (.int x2), some (.int x3), some (.ref x4), some (.int (x5 ||| ((Int32.ofInt 1) <<< (x6 &&& 31)))), some (.int (x6 + (Int32.ofInt 1)))], []) h) ∧
    (∀ (x0 x4 : Nat) (x1 x2 x3 x5 x6 : Int32) (h : xH), W m_Room_proof (44, [some (.ref x0), some (.int x1), some (.int x2), some (.int x3), some (.ref x4), some (.int x5), some (.int x6)], []) h = W m_Room_proof (15, [some (.ref x0), some (.int x1), some (.int x2), some (.int x3), some (.ref x4), some (.int x5), some (.int (x6 + (Int32.ofInt 1)))], []) h) ∧
    (∀ (x0 x4 : Nat) (x1 x2 x3 x5 x6 : Int32) (h : xH), W m_Room_proof (50, [some (.ref x0), some (.int x1), some (.int x2), some (.int x3), some (.ref x4), some (.int x5), some (.int x6)], []) h = some (.inl (some (.int x5)), h)) :=
  ⟨fun _ _ _ _ _ => (xW_k hW 5 _ _ _).trans xq_rc,
   fun _ _ _ _ _ _ => (xW_k hW 5 _ _ _).trans rfl,
   fun _ _ _ _ _ _ _ _ => (xW_k hW 6 _ _ _).trans xq_rc,
   fun _ _ _ _ _ _ _ _ _ => (xW_k hW 1 _ _ _).trans rfl,
   fun _ _ _ _ _ _ _ _ => (xW_k hW 8 _ _ _).trans rfl,
   fun _ _ _ _ _ _ _ _ => (xW_k hW 2 _ _ _).trans rfl,
   fun _ _ _ _ _ _ _ _ => (xW_k hW 2 _ _ _).trans rfl⟩
theorem L_Room_proof_15 (hW : ∀ M f h, W M f h = xbody V xF0 xG W M f h) :
    (∀ (x0 x4 : Nat) (x1 x2 x3 x5 x6 : Int32) (h : xH), W m_Room_proof (15, [some (.ref x0), some (.int x1), some (.int x2), some (.int x3), some (.ref x4), some (.int x5), some (.int x6)], []) h = if (Int32.ofInt 8) ≤ x6 then W m_Room_proof (50, [some (.ref x0), some (.int x1), some (.int x2), some (.int x3), some (.ref x4), some (.int x5), some (.int x6)], []) h else W m_Room_proof (22, [some (.ref x0), some (.int x1), some (.int x2), some (.int x3), some (.ref x4), some (.int x5), some (.int x6)], []) h) :=
  fun _ _ _ _ _ _ _ _ => (xW_k hW 3 _ _ _).trans rfl
theorem X_Room_proof : xhs m_Room_proof = [] := rfl
end XEQ
