section XEQ
variable {V : Nat → Value} {W : xM → xF → xH → Option xR}
theorem E_Room_init (hW : ∀ M f h, W M f h = xbody V xF0 xG W M f h) :
    (∀ (x0 : Nat) (h : xH), W m_Room_init (0, [some (.ref x0), none, none], []) h = xmk W m_Room_init 10 [some (.ref x0), none, none] [(.ref x0)] h 0 (Int32.ofInt 512)) ∧
    (∀ (x0 y0 y1 : Nat) (h : xH), W m_Room_init (10, [some (.ref x0), none, none], [(.ref y0), (.ref y1)]) h = xthn W m_Room_init 13 [some (.ref x0), none, none] [] (xptf (h.1 y1) h y1 0 0 2 (.ref y0))) ∧
    (∀ (x0 : Nat) (h : xH), W m_Room_init (13, [some (.ref x0), none, none], []) h = xmk2 W m_Room_init 22 [some (.ref x0), none, none] [(.ref x0)] h 4 0 (Int32.ofInt 4) (Int32.ofInt 3072)) ∧
    (∀ (x0 y0 y1 : Nat) (h : xH), W m_Room_init (22, [some (.ref x0), none, none], [(.ref y0), (.ref y1)]) h = xthn W m_Room_init 25 [some (.ref x0), none, none] [] (xptf (h.1 y1) h y1 0 1 2 (.ref y0))) ∧
    (∀ (x0 : Nat) (h : xH), W m_Room_init (25, [some (.ref x0), none, none], []) h = xmk W m_Room_init 30 [some (.ref x0), none, none] [(.ref x0)] h 6 (Int32.ofInt 4)) ∧
    (∀ (x0 y0 y1 : Nat) (h : xH), W m_Room_init (30, [some (.ref x0), none, none], [(.ref y0), (.ref y1)]) h = xthn W m_Room_init 33 [some (.ref x0), none, none] [] (xptf (h.1 y1) h y1 0 2 2 (.ref y0))) ∧
    (∀ (x0 : Nat) (h : xH), W m_Room_init (33, [some (.ref x0), none, none], []) h = W m_Room_init (35, [some (.ref x0), some (.int (Int32.ofInt 0)), none], []) h) ∧
    (∀ (x0 : Nat) (x1 : Int32) (h : xH), W m_Room_init (40, [some (.ref x0), some (.int x1), none], []) h = xpush W m_Room_init 44 [some (.ref x0), some (.int x1), none] [] h (xfld 0 2 (h.1 x0))) ∧
    (∀ (x0 y0 : Nat) (x1 : Int32) (h : xH), W m_Room_init (44, [some (.ref x0), some (.int x1), none], [(.ref y0)]) h = W m_Room_init (48, [some (.ref x0), some (.int x1), none], [(.ref h.2.1), (.int x1), (.ref y0)]) (xnew h (xO' 1 (xF0 1)) 5)) ∧
    (∀ (x0 y0 y2 : Nat) (x1 y1 : Int32) (h : xH), W m_Room_init (48, [some (.ref x0), some (.int x1), none], [(.ref y0), (.int y1), (.ref y2)]) h = xret W m_Room_init 49 52 [some (.ref x0), some (.int x1), none] [(.ref y0), (.int y1), (.ref y2)] (W m_Job_init (0, [some (.ref y0)], []) h)) ∧
    (∀ (x0 y0 y2 : Nat) (x1 y1 : Int32) (h : xH), W m_Room_init (52, [some (.ref x0), some (.int x1), none], [(.ref y0), (.int y1), (.ref y2)]) h = xthn W m_Room_init 53 [some (.ref x0), some (.int x1), none] [] (xstR (h.1 y2) (h.1 y0) h y2 y1 y0)) ∧
    (∀ (x0 : Nat) (x1 : Int32) (h : xH), W m_Room_init (53, [some (.ref x0), some (.int x1), none], []) h = W m_Room_init (35, [some (.ref x0), some (.int (x1 + (Int32.ofInt 1))), none], []) h) ∧
    (∀ (x0 : Nat) (x1 : Int32) (h : xH), W m_Room_init (59, [some (.ref x0), some (.int x1), none], []) h = W m_Room_init (63, [some (.ref x0), some (.int x1), none], [(.ref h.2.1), (.ref x0)]) (xnew h (xO' 2 (xF0 2)) 5)) ∧
    (∀ (x0 y0 y1 : Nat) (x1 : Int32) (h : xH), W m_Room_init (63, [some (.ref x0), some (.int x1), none], [(.ref y0), (.ref y1)]) h = xret W m_Room_init 64 67 [some (.ref x0), some (.int x1), none] [(.ref y0), (.ref y1)] (W m_Spr_init (0, [some (.ref y0)], []) h)) ∧
    (∀ (x0 y0 y1 : Nat) (x1 : Int32) (h : xH), W m_Room_init (67, [some (.ref x0), some (.int x1), none], [(.ref y0), (.ref y1)]) h = xthn W m_Room_init 70 [some (.ref x0), some (.int x1), none] [] (xptf (h.1 y1) h y1 0 3 2 (.ref y0))) ∧
    (∀ (x0 : Nat) (x1 : Int32) (h : xH), W m_Room_init (70, [some (.ref x0), some (.int x1), none], []) h = xmk W m_Room_init 76 [some (.ref x0), some (.int x1), none] [(.ref x0)] h 9 (Int32.ofInt 8)) ∧
    (∀ (x0 y0 y1 : Nat) (x1 : Int32) (h : xH), W m_Room_init (76, [some (.ref x0), some (.int x1), none], [(.ref y0), (.ref y1)]) h = xthn W m_Room_init 79 [some (.ref x0), some (.int x1), none] [] (xptf (h.1 y1) h y1 0 4 2 (.ref y0))) ∧
    (∀ (x0 : Nat) (x1 : Int32) (h : xH), W m_Room_init (79, [some (.ref x0), some (.int x1), none], []) h = W m_Room_init (82, [some (.ref x0), some (.int x1), none], [(.ref h.2.1)]) (xnew h (xO' 3 (xF0 3)) 4)) ∧
    (∀ (x0 y0 : Nat) (x1 : Int32) (h : xH), W m_Room_init (82, [some (.ref x0), some (.int x1), none], [(.ref y0)]) h = xret W m_Room_init 83 86 [some (.ref x0), some (.int x1), none] [(.ref y0)] (W m_Pla_init (0, [some (.ref y0), none, none], []) h)) ∧
    (∀ (x0 y0 : Nat) (x1 : Int32) (h : xH), W m_Room_init (86, [some (.ref x0), some (.int x1), none], [(.ref y0)]) h = W m_Room_init (89, [some (.ref x0), some (.ref y0), some (.int (Int32.ofInt 0))], []) h) ∧
    (∀ (x0 x1 : Nat) (x2 : Int32) (h : xH), W m_Room_init (95, [some (.ref x0), some (.ref x1), some (.int x2)], []) h = xpush W m_Room_init 99 [some (.ref x0), some (.ref x1), some (.int x2)] [] h (xfld 0 4 (h.1 x0))) ∧
    (∀ (x0 x1 y0 : Nat) (x2 : Int32) (h : xH), W m_Room_init (99, [some (.ref x0), some (.ref x1), some (.int x2)], [(.ref y0)]) h = W m_Room_init (103, [some (.ref x0), some (.ref x1), some (.int x2)], [(.ref h.2.1), (.int x2), (.ref y0)]) (xnew h (xO' 4 (xF0 4)) 6)) ∧
    (∀ (x0 x1 y0 y2 : Nat) (x2 y1 : Int32) (h : xH), W m_Room_init (103, [some (.ref x0), some (.ref x1), some (.int x2)], [(.ref y0), (.int y1), (.ref y2)]) h = xret W m_Room_init 105 108 [some (.ref x0), some (.ref x1), some (.int x2)] [(.ref y0), (.int y1), (.ref y2)] (W m_Scr_init (0, [some (.ref y0), some (.ref x1)], []) h)) ∧
    (∀ (x0 x1 y0 y2 : Nat) (x2 y1 : Int32) (h : xH), W m_Room_init (108, [some (.ref x0), some (.ref x1), some (.int x2)], [(.ref y0), (.int y1), (.ref y2)]) h = xthn W m_Room_init 109 [some (.ref x0), some (.ref x1), some (.int x2)] [] (xstR (h.1 y2) (h.1 y0) h y2 y1 y0)) ∧
    (∀ (x0 x1 : Nat) (x2 : Int32) (h : xH), W m_Room_init (109, [some (.ref x0), some (.ref x1), some (.int x2)], []) h = W m_Room_init (89, [some (.ref x0), some (.ref x1), some (.int (x2 + (Int32.ofInt 1)))], []) h) ∧
    (∀ (x0 x1 : Nat) (x2 : Int32) (h : xH), W m_Room_init (115, [some (.ref x0), some (.ref x1), some (.int x2)], []) h = W m_Room_init (119, [some (.ref x0), some (.ref x1), some (.int x2)], [(.ref h.2.1), (.ref x0)]) (xnew h (xO' 5 (xF0 5)) 5)) ∧
    (∀ (x0 x1 y0 y1 : Nat) (x2 : Int32) (h : xH), W m_Room_init (119, [some (.ref x0), some (.ref x1), some (.int x2)], [(.ref y0), (.ref y1)]) h = xret W m_Room_init 120 123 [some (.ref x0), some (.ref x1), some (.int x2)] [(.ref y0), (.ref y1)] (W m_She_init (0, [some (.ref y0), none], []) h)) ∧
    (∀ (x0 x1 y0 y1 : Nat) (x2 : Int32) (h : xH), W m_Room_init (123, [some (.ref x0), some (.ref x1), some (.int x2)], [(.ref y0), (.ref y1)]) h = xthn W m_Room_init 126 [some (.ref x0), some (.ref x1), some (.int x2)] [] (xptf (h.1 y1) h y1 0 5 2 (.ref y0))) ∧
    (∀ (x0 x1 : Nat) (x2 : Int32) (h : xH), W m_Room_init (126, [some (.ref x0), some (.ref x1), some (.int x2)], []) h = xthn W m_Room_init 131 [some (.ref x0), some (.ref x1), some (.int x2)] [] (xptf (h.1 x0) h x0 0 6 0 (.int (Int32.ofInt 0)))) ∧
    (∀ (x0 x1 : Nat) (x2 : Int32) (h : xH), W m_Room_init (131, [some (.ref x0), some (.ref x1), some (.int x2)], []) h = xthn W m_Room_init 138 [some (.ref x0), some (.ref x1), some (.int x2)] [] (xptf (h.1 x0) h x0 0 7 0 (.int (Int32.ofInt 1020)))) ∧
    (∀ (x0 x1 : Nat) (x2 : Int32) (h : xH), W m_Room_init (138, [some (.ref x0), some (.ref x1), some (.int x2)], []) h = some (.inl none, h)) :=
  ⟨fun _ _ => (xW_k hW 5 _ _ _).trans rfl,
   fun _ _ _ _ => (xW_k hW 1 _ _ _).trans xq_ptf,
   fun _ _ => (xW_k hW 4 _ _ _).trans rfl,
   fun _ _ _ _ => (xW_k hW 1 _ _ _).trans xq_ptf,
   fun _ _ => (xW_k hW 3 _ _ _).trans rfl,
   fun _ _ _ _ => (xW_k hW 1 _ _ _).trans xq_ptf,
   fun _ _ => (xW_k hW 2 _ _ _).trans rfl,
   fun _ _ _ => (xW_k hW 2 _ _ _).trans xq_fld,
   fun _ _ _ _ => (xW_k hW 2 _ _ _).trans rfl,
   fun _ _ _ _ _ _ => (xW_k hW 2 _ _ _).trans rfl,
   fun _ _ _ _ _ _ => (xW_k hW 1 _ _ _).trans xq_stR,
   fun _ _ _ => (xW_k hW 2 _ _ _).trans rfl,
   fun _ _ _ => (xW_k hW 2 _ _ _).trans rfl,
   fun _ _ _ _ _ => (xW_k hW 2 _ _ _).trans rfl,
   fun _ _ _ _ _ => (xW_k hW 1 _ _ _).trans xq_ptf,
   fun _ _ _ => (xW_k hW 3 _ _ _).trans rfl,
   fun _ _ _ _ _ => (xW_k hW 1 _ _ _).trans xq_ptf,
   fun _ _ _ => (xW_k hW 1 _ _ _).trans rfl,
   fun _ _ _ _ => (xW_k hW 2 _ _ _).trans rfl,
   fun _ _ _ _ => (xW_k hW 3 _ _ _).trans rfl,
   fun _ _ _ _ => (xW_k hW 2 _ _ _).trans xq_fld,
   fun _ _ _ _ _ => (xW_k hW 2 _ _ _).trans rfl,
   fun _ _ _ _ _ _ _ => (xW_k hW 3 _ _ _).trans rfl,
   fun _ _ _ _ _ _ _ => (xW_k hW 1 _ _ _).trans xq_stR,
   fun _ _ _ _ => (xW_k hW 2 _ _ _).trans rfl,
   fun _ _ _ _ => (xW_k hW 2 _ _ _).trans rfl,
   fun _ _ _ _ _ _ => (xW_k hW 2 _ _ _).trans rfl,
   fun _ _ _ _ _ _ => (xW_k hW 1 _ _ _).trans xq_ptf,
   fun _ _ _ _ => (xW_k hW 3 _ _ _).trans xq_ptf,
   fun _ _ _ _ => (xW_k hW 3 _ _ _).trans xq_ptf,
   fun _ _ _ _ => (xW_k hW 1 _ _ _).trans rfl⟩
theorem L_Room_init_35 (hW : ∀ M f h, W M f h = xbody V xF0 xG W M f h) :
    (∀ (x0 : Nat) (x1 : Int32) (h : xH), W m_Room_init (35, [some (.ref x0), some (.int x1), none], []) h = if (Int32.ofInt 4) ≤ x1 then W m_Room_init (59, [some (.ref x0), some (.int x1), none], []) h else W m_Room_init (40, [some (.ref x0), some (.int x1), none], []) h) :=
  fun _ _ _ => (xW_k hW 3 _ _ _).trans rfl
theorem L_Room_init_89 (hW : ∀ M f h, W M f h = xbody V xF0 xG W M f h) :
    (∀ (x0 x1 : Nat) (x2 : Int32) (h : xH), W m_Room_init (89, [some (.ref x0), some (.ref x1), some (.int x2)], []) h = if (Int32.ofInt 8) ≤ x2 then W m_Room_init (115, [some (.ref x0), some (.ref x1), some (.int x2)], []) h else W m_Room_init (95, [some (.ref x0), some (.ref x1), some (.int x2)], []) h) :=
  fun _ _ _ _ => (xW_k hW 3 _ _ _).trans rfl
theorem X_Room_init : xhs m_Room_init = [] := rfl
theorem E_Job_init (hW : ∀ M f h, W M f h = xbody V xF0 xG W M f h) :
    (∀ (x0 : Nat) (h : xH), W m_Job_init (0, [some (.ref x0)], []) h = xmk W m_Job_init 10 [some (.ref x0)] [(.ref x0)] h 0 (Int32.ofInt 3072)) ∧
    (∀ (x0 y0 y1 : Nat) (h : xH), W m_Job_init (10, [some (.ref x0)], [(.ref y0), (.ref y1)]) h = xthn W m_Job_init 13 [some (.ref x0)] [] (xptf (h.1 y1) h y1 1 0 2 (.ref y0))) ∧
    (∀ (x0 : Nat) (h : xH), W m_Job_init (13, [some (.ref x0)], []) h = xmk W m_Job_init 19 [some (.ref x0)] [(.ref x0)] h 0 (Int32.ofInt 3072)) ∧
    (∀ (x0 y0 y1 : Nat) (h : xH), W m_Job_init (19, [some (.ref x0)], [(.ref y0), (.ref y1)]) h = xthn W m_Job_init 22 [some (.ref x0)] [] (xptf (h.1 y1) h y1 1 1 2 (.ref y0))) ∧
    (∀ (x0 : Nat) (h : xH), W m_Job_init (22, [some (.ref x0)], []) h = xmk W m_Job_init 28 [some (.ref x0)] [(.ref x0)] h 0 (Int32.ofInt 512)) ∧
    (∀ (x0 y0 y1 : Nat) (h : xH), W m_Job_init (28, [some (.ref x0)], [(.ref y0), (.ref y1)]) h = xthn W m_Job_init 31 [some (.ref x0)] [] (xptf (h.1 y1) h y1 1 2 2 (.ref y0))) ∧
    (∀ (x0 : Nat) (h : xH), W m_Job_init (31, [some (.ref x0)], []) h = some (.inl none, h)) :=
  ⟨fun _ _ => (xW_k hW 5 _ _ _).trans rfl,
   fun _ _ _ _ => (xW_k hW 1 _ _ _).trans xq_ptf,
   fun _ _ => (xW_k hW 3 _ _ _).trans rfl,
   fun _ _ _ _ => (xW_k hW 1 _ _ _).trans xq_ptf,
   fun _ _ => (xW_k hW 3 _ _ _).trans rfl,
   fun _ _ _ _ => (xW_k hW 1 _ _ _).trans xq_ptf,
   fun _ _ => (xW_k hW 1 _ _ _).trans rfl⟩
theorem X_Job_init : xhs m_Job_init = [] := rfl
theorem E_Spr_init (hW : ∀ M f h, W M f h = xbody V xF0 xG W M f h) :
    (∀ (x0 : Nat) (h : xH), W m_Spr_init (0, [some (.ref x0)], []) h = xmk W m_Spr_init 9 [some (.ref x0)] [(.ref x0)] h 0 (Int32.ofInt 64)) ∧
    (∀ (x0 y0 y1 : Nat) (h : xH), W m_Spr_init (9, [some (.ref x0)], [(.ref y0), (.ref y1)]) h = xthn W m_Spr_init 12 [some (.ref x0)] [] (xptf (h.1 y1) h y1 2 0 2 (.ref y0))) ∧
    (∀ (x0 : Nat) (h : xH), W m_Spr_init (12, [some (.ref x0)], []) h = xmk W m_Spr_init 17 [some (.ref x0)] [(.ref x0)] h 0 (Int32.ofInt 64)) ∧
    (∀ (x0 y0 y1 : Nat) (h : xH), W m_Spr_init (17, [some (.ref x0)], [(.ref y0), (.ref y1)]) h = xthn W m_Spr_init 20 [some (.ref x0)] [] (xptf (h.1 y1) h y1 2 1 2 (.ref y0))) ∧
    (∀ (x0 : Nat) (h : xH), W m_Spr_init (20, [some (.ref x0)], []) h = xmk W m_Spr_init 25 [some (.ref x0)] [(.ref x0)] h 1 (Int32.ofInt 64)) ∧
    (∀ (x0 y0 y1 : Nat) (h : xH), W m_Spr_init (25, [some (.ref x0)], [(.ref y0), (.ref y1)]) h = xthn W m_Spr_init 28 [some (.ref x0)] [] (xptf (h.1 y1) h y1 2 2 2 (.ref y0))) ∧
    (∀ (x0 : Nat) (h : xH), W m_Spr_init (28, [some (.ref x0)], []) h = xmk W m_Spr_init 34 [some (.ref x0)] [(.ref x0)] h 1 (Int32.ofInt 3072)) ∧
    (∀ (x0 y0 y1 : Nat) (h : xH), W m_Spr_init (34, [some (.ref x0)], [(.ref y0), (.ref y1)]) h = xthn W m_Spr_init 37 [some (.ref x0)] [] (xptf (h.1 y1) h y1 2 3 2 (.ref y0))) ∧
    (∀ (x0 : Nat) (h : xH), W m_Spr_init (37, [some (.ref x0)], []) h = xmk W m_Spr_init 43 [some (.ref x0)] [(.ref x0)] h 1 (Int32.ofInt 3072)) ∧
    (∀ (x0 y0 y1 : Nat) (h : xH), W m_Spr_init (43, [some (.ref x0)], [(.ref y0), (.ref y1)]) h = xthn W m_Spr_init 46 [some (.ref x0)] [] (xptf (h.1 y1) h y1 2 4 2 (.ref y0))) ∧
    (∀ (x0 : Nat) (h : xH), W m_Spr_init (46, [some (.ref x0)], []) h = some (.inl none, h)) :=
  ⟨fun _ _ => (xW_k hW 5 _ _ _).trans rfl,
   fun _ _ _ _ => (xW_k hW 1 _ _ _).trans xq_ptf,
   fun _ _ => (xW_k hW 3 _ _ _).trans rfl,
   fun _ _ _ _ => (xW_k hW 1 _ _ _).trans xq_ptf,
   fun _ _ => (xW_k hW 3 _ _ _).trans rfl,
   fun _ _ _ _ => (xW_k hW 1 _ _ _).trans xq_ptf,
   fun _ _ => (xW_k hW 3 _ _ _).trans rfl,
   fun _ _ _ _ => (xW_k hW 1 _ _ _).trans xq_ptf,
   fun _ _ => (xW_k hW 3 _ _ _).trans rfl,
   fun _ _ _ _ => (xW_k hW 1 _ _ _).trans xq_ptf,
   fun _ _ => (xW_k hW 1 _ _ _).trans rfl⟩
theorem X_Spr_init : xhs m_Spr_init = [] := rfl
theorem E_Pla_init (hW : ∀ M f h, W M f h = xbody V xF0 xG W M f h) :
    (∀ (x0 : Nat) (h : xH), W m_Pla_init (0, [some (.ref x0), none, none], []) h = xmk W m_Pla_init 10 [some (.ref x0), none, none] [(.ref x0)] h 0 (Int32.ofInt 1681)) ∧
    (∀ (x0 y0 y1 : Nat) (h : xH), W m_Pla_init (10, [some (.ref x0), none, none], [(.ref y0), (.ref y1)]) h = xthn W m_Pla_init 13 [some (.ref x0), none, none] [] (xptf (h.1 y1) h y1 3 0 2 (.ref y0))) ∧
    (∀ (x0 : Nat) (h : xH), W m_Pla_init (13, [some (.ref x0), none, none], []) h = xmk W m_Pla_init 19 [some (.ref x0), none, none] [(.ref x0)] h 0 (Int32.ofInt 1681)) ∧
    (∀ (x0 y0 y1 : Nat) (h : xH), W m_Pla_init (19, [some (.ref x0), none, none], [(.ref y0), (.ref y1)]) h = xthn W m_Pla_init 22 [some (.ref x0), none, none] [] (xptf (h.1 y1) h y1 3 1 2 (.ref y0))) ∧
    (∀ (x0 : Nat) (h : xH), W m_Pla_init (22, [some (.ref x0), none, none], []) h = xmk W m_Pla_init 28 [some (.ref x0), none, none] [(.ref x0)] h 0 (Int32.ofInt 402)) ∧
    (∀ (x0 y0 y1 : Nat) (h : xH), W m_Pla_init (28, [some (.ref x0), none, none], [(.ref y0), (.ref y1)]) h = xthn W m_Pla_init 31 [some (.ref x0), none, none] [] (xptf (h.1 y1) h y1 3 2 2 (.ref y0))) ∧
    (∀ (x0 : Nat) (h : xH), W m_Pla_init (31, [some (.ref x0), none, none], []) h = W m_Pla_init (35, [some (.ref x0), some (.int (Int32.ofInt 0)), some (.int (Int32.ofInt 0))], []) h) ∧
    (∀ (x0 : Nat) (x1 x2 : Int32) (h : xH), W m_Pla_init (42, [some (.ref x0), some (.int x1), some (.int x2)], []) h = xret W m_Pla_init 43 46 [some (.ref x0), some (.int x1), some (.int x2)] [] (W m_Pla_distanceOf (0, [some (.int x2)], []) h)) ∧
    (∀ (x0 : Nat) (x1 x2 y0 : Int32) (h : xH), W m_Pla_init (46, [some (.ref x0), some (.int x1), some (.int x2)], [(.int y0)]) h = if (Int32.ofInt 400) < y0 then W m_Pla_init (62, [some (.ref x0), some (.int x1), some (.int x2)], []) h else W m_Pla_init (52, [some (.ref x0), some (.int x1), some (.int x2)], []) h) ∧
    (∀ (x0 : Nat) (x1 x2 : Int32) (h : xH), W m_Pla_init (52, [some (.ref x0), some (.int x1), some (.int x2)], []) h = xpush W m_Pla_init 56 [some (.ref x0), some (.int x1), some (.int x2)] [] h (xfld 3 0 (h.1 x0))) ∧
    (∀ (x0 y0 : Nat) (x1 x2 : Int32) (h : xH), W m_Pla_init (56, [some (.ref x0), some (.int x1), some (.int x2)], [(.ref y0)]) h = xthn W m_Pla_init 59 [some (.ref x0), some (.int x1), some (.int x2)] [] (xstI (h.1 y0) h y0 x1 x2)) ∧
    (∀ (x0 : Nat) (x1 x2 : Int32) (h : xH), W m_Pla_init (59, [some (.ref x0), some (.int x1), some (.int x2)], []) h = W m_Pla_init (35, [some (.ref x0), some (.int (x1 + (Int32.ofInt 1))), some (.int (x2 + (Int32.ofInt 1)))], []) h) ∧
    (∀ (x0 : Nat) (x1 x2 : Int32) (h : xH), W m_Pla_init (62, [some (.ref x0), some (.int x1), some (.int x2)], []) h = W m_Pla_init (35, [some (.ref x0), some (.int x1), some (.int (x2 + (Int32.ofInt 1)))], []) h) ∧
    (∀ (x0 : Nat) (x1 x2 : Int32) (h : xH), W m_Pla_init (68, [some (.ref x0), some (.int x1), some (.int x2)], []) h = xthn W m_Pla_init 73 [some (.ref x0), some (.int x1), some (.int x2)] [] (xptf (h.1 x0) h x0 3 3 0 (.int x1))) ∧
    (∀ (x0 : Nat) (x1 x2 : Int32) (h : xH), W m_Pla_init (73, [some (.ref x0), some (.int x1), some (.int x2)], []) h = xpush W m_Pla_init 78 [some (.ref x0), some (.int x1), some (.int x2)] [(.ref x0)] h (xfld 3 3 (h.1 x0))) ∧
    (∀ (x0 y1 : Nat) (x1 x2 y0 : Int32) (h : xH), W m_Pla_init (78, [some (.ref x0), some (.int x1), some (.int x2)], [(.int y0), (.ref y1)]) h = xret W m_Pla_init 81 84 [some (.ref x0), some (.int x1), some (.int x2)] [] (xrc 3 (h.1 y1) (W m_Pla_sortByForm (0, [some (.ref y1), some (.int y0), some (.int (Int32.ofInt 1)), some (.int (Int32.ofInt 0)), some (.int (Int32.ofInt 0)), none, none], []) h))) ∧
    (∀ (x0 : Nat) (x1 x2 : Int32) (h : xH), W m_Pla_init (84, [some (.ref x0), some (.int x1), some (.int x2)], []) h = xpush W m_Pla_init 88 [some (.ref x0), some (.int x1), some (.int x2)] [] h (xfld 3 1 (h.1 x0))) ∧
    (∀ (x0 y0 : Nat) (x1 x2 : Int32) (h : xH), W m_Pla_init (88, [some (.ref x0), some (.int x1), some (.int x2)], [(.ref y0)]) h = xpush W m_Pla_init 93 [some (.ref x0), some (.int x1), some (.int x2)] [(.int (Int32.ofInt 0)), (.ref y0)] h (xfld 3 0 (h.1 x0))) ∧
    (∀ (x0 y0 y2 : Nat) (x1 x2 y1 : Int32) (h : xH), W m_Pla_init (93, [some (.ref x0), some (.int x1), some (.int x2)], [(.ref y0), (.int y1), (.ref y2)]) h = xpush W m_Pla_init 98 [some (.ref x0), some (.int x1), some (.int x2)] [(.int (Int32.ofInt 0)), (.ref y0), (.int y1), (.ref y2)] h (xfld 3 3 (h.1 x0))) ∧
    (∀ (x0 y2 y4 : Nat) (x1 x2 y0 y1 y3 : Int32) (h : xH), W m_Pla_init (98, [some (.ref x0), some (.int x1), some (.int x2)], [(.int y0), (.int y1), (.ref y2), (.int y3), (.ref y4)]) h = xthn W m_Pla_init 101 [some (.ref x0), some (.int x1), some (.int x2)] [] (xcp (h.1 y4) (h.1 y2) h y3 y2 y1 y0)) ∧
    (∀ (x0 : Nat) (x1 x2 : Int32) (h : xH), W m_Pla_init (101, [some (.ref x0), some (.int x1), some (.int x2)], []) h = some (.inl none, h)) :=
  ⟨fun _ _ => (xW_k hW 5 _ _ _).trans rfl,
   fun _ _ _ _ => (xW_k hW 1 _ _ _).trans xq_ptf,
   fun _ _ => (xW_k hW 3 _ _ _).trans rfl,
   fun _ _ _ _ => (xW_k hW 1 _ _ _).trans xq_ptf,
   fun _ _ => (xW_k hW 3 _ _ _).trans rfl,
   fun _ _ _ _ => (xW_k hW 1 _ _ _).trans xq_ptf,
   fun _ _ => (xW_k hW 4 _ _ _).trans rfl,
   fun _ _ _ _ => (xW_k hW 2 _ _ _).trans rfl,
   fun _ _ _ _ _ => (xW_k hW 2 _ _ _).trans rfl,
   fun _ _ _ _ => (xW_k hW 2 _ _ _).trans xq_fld,
   fun _ _ _ _ _ => (xW_k hW 3 _ _ _).trans xq_stI,
   fun _ _ _ _ => (xW_k hW 3 _ _ _).trans rfl,
   fun _ _ _ _ => (xW_k hW 2 _ _ _).trans rfl,
   fun _ _ _ _ => (xW_k hW 3 _ _ _).trans xq_ptf,
   fun _ _ _ _ => (xW_k hW 3 _ _ _).trans xq_fld,
   fun _ _ _ _ _ _ => (xW_k hW 4 _ _ _).trans xq_rc,
   fun _ _ _ _ => (xW_k hW 2 _ _ _).trans xq_fld,
   fun _ _ _ _ _ => (xW_k hW 3 _ _ _).trans xq_fld,
   fun _ _ _ _ _ _ _ => (xW_k hW 3 _ _ _).trans xq_fld,
   fun _ _ _ _ _ _ _ _ _ => (xW_k hW 1 _ _ _).trans xq_cp,
   fun _ _ _ _ => (xW_k hW 1 _ _ _).trans rfl⟩
theorem L_Pla_init_35 (hW : ∀ M f h, W M f h = xbody V xF0 xG W M f h) :
    (∀ (x0 : Nat) (x1 x2 : Int32) (h : xH), W m_Pla_init (35, [some (.ref x0), some (.int x1), some (.int x2)], []) h = if (Int32.ofInt 1681) ≤ x2 then W m_Pla_init (68, [some (.ref x0), some (.int x1), some (.int x2)], []) h else W m_Pla_init (42, [some (.ref x0), some (.int x1), some (.int x2)], []) h) :=
  fun _ _ _ _ => (xW_k hW 3 _ _ _).trans rfl
theorem X_Pla_init : xhs m_Pla_init = [] := rfl
theorem E_Pla_distanceOf (hW : ∀ M f h, W M f h = xbody V xF0 xG W M f h) :
    (∀ (x0 : Int32) (h : xH), W m_Pla_distanceOf (0, [some (.int x0)], []) h = xret W m_Pla_distanceOf 1 4 [some (.int x0)] [] (W m_Pla_xOf (0, [some (.int x0)], []) h)) ∧
    (∀ (x0 y0 : Int32) (h : xH), W m_Pla_distanceOf (4, [some (.int x0)], [(.int y0)]) h = xret W m_Pla_distanceOf 5 8 [some (.int x0)] [(.int y0)] (W m_Pla_xOf (0, [some (.int x0)], []) h)) ∧
    (∀ (x0 y0 y1 : Int32) (h : xH), W m_Pla_distanceOf (8, [some (.int x0)], [(.int y0), (.int y1)]) h = xret W m_Pla_distanceOf 10 13 [some (.int x0)] [(.int (y1 * y0))] (W m_Pla_yOf (0, [some (.int x0)], []) h)) ∧
    (∀ (x0 y0 y1 : Int32) (h : xH), W m_Pla_distanceOf (13, [some (.int x0)], [(.int y0), (.int y1)]) h = xret W m_Pla_distanceOf 14 17 [some (.int x0)] [(.int y0), (.int y1)] (W m_Pla_yOf (0, [some (.int x0)], []) h)) ∧
    (∀ (x0 y0 y1 y2 : Int32) (h : xH), W m_Pla_distanceOf (17, [some (.int x0)], [(.int y0), (.int y1), (.int y2)]) h = some (.inl (some (.int (y2 + (y1 * y0)))), h)) :=
  ⟨fun _ _ => (xW_k hW 2 _ _ _).trans rfl,
   fun _ _ _ => (xW_k hW 2 _ _ _).trans rfl,
   fun _ _ _ _ => (xW_k hW 3 _ _ _).trans rfl,
   fun _ _ _ _ => (xW_k hW 2 _ _ _).trans rfl,
   fun _ _ _ _ _ => (xW_k hW 3 _ _ _).trans rfl⟩
theorem X_Pla_distanceOf : xhs m_Pla_distanceOf = [] := rfl
theorem E_Pla_xOf (hW : ∀ M f h, W M f h = xbody V xF0 xG W M f h) :
    (∀ (x0 : Int32) (h : xH), W m_Pla_xOf (0, [some (.int x0)], []) h = some (.inl (some (.int ((x0 - x0 / (Int32.ofInt 41) * (Int32.ofInt 41)) - (Int32.ofInt 20)))), h)) :=
  fun _ _ => (xW_k hW 6 _ _ _).trans rfl
theorem X_Pla_xOf : xhs m_Pla_xOf = [] := rfl
theorem E_Pla_yOf (hW : ∀ M f h, W M f h = xbody V xF0 xG W M f h) :
    (∀ (x0 : Int32) (h : xH), W m_Pla_yOf (0, [some (.int x0)], []) h = some (.inl (some (.int ((x0 / (Int32.ofInt 41)) - (Int32.ofInt 20)))), h)) :=
  fun _ _ => (xW_k hW 6 _ _ _).trans rfl
theorem X_Pla_yOf : xhs m_Pla_yOf = [] := rfl
theorem E_Pla_sortByForm (hW : ∀ M f h, W M f h = xbody V xF0 xG W M f h) :
    (∀ (x0 : Nat) (x1 x2 x3 x4 : Int32) (h : xH), W m_Pla_sortByForm (0, [some (.ref x0), some (.int x1), some (.int x2), some (.int x3), some (.int x4), none, none], []) h = xpush W m_Pla_sortByForm 4 [some (.ref x0), some (.int x1), some (.int x2), some (.int x3), some (.int x4), none, none] [] h (xfld 3 2 (h.1 x0))) ∧
    (∀ (x0 y0 : Nat) (x1 x2 x3 x4 : Int32) (h : xH), W m_Pla_sortByForm (4, [some (.ref x0), some (.int x1), some (.int x2), some (.int x3), some (.int x4), none, none], [(.ref y0)]) h = xret W m_Pla_sortByForm 5 8 [some (.ref x0), some (.int x1), some (.int x2), some (.int x3), some (.int x4), none, none] [] (W m_Arrays_fill (0, [some (.ref y0), some (.int (Int32.ofInt 0)), none, none], []) h)) ∧
    (∀ (x0 : Nat) (x1 x2 x3 x4 : Int32) (h : xH), W m_Pla_sortByForm (8, [some (.ref x0), some (.int x1), some (.int x2), some (.int x3), some (.int x4), none, none], []) h = W m_Pla_sortByForm (11, [some (.ref x0), some (.int x1), some (.int x2), some (.int x3), some (.int x4), some (.int (Int32.ofInt 0)), none], []) h) ∧
    (∀ (x0 : Nat) (x1 x2 x3 x4 x5 : Int32) (h : xH), W m_Pla_sortByForm (17, [some (.ref x0), some (.int x1), some (.int x2), some (.int x3), some (.int x4), some (.int x5), none], []) h = xpush W m_Pla_sortByForm 21 [some (.ref x0), some (.int x1), some (.int x2), some (.int x3), some (.int x4), some (.int x5), none] [] h (xfld 3 2 (h.1 x0))) ∧
    (∀ (x0 y0 : Nat) (x1 x2 x3 x4 x5 : Int32) (h : xH), W m_Pla_sortByForm (21, [some (.ref x0), some (.int x1), some (.int x2), some (.int x3), some (.int x4), some (.int x5), none], [(.ref y0)]) h = xpush W m_Pla_sortByForm 25 [some (.ref x0), some (.int x1), some (.int x2), some (.int x3), some (.int x4), some (.int x5), none] [(.ref y0)] h (xfld 3 0 (h.1 x0))) ∧
    (∀ (x0 y0 y1 : Nat) (x1 x2 x3 x4 x5 : Int32) (h : xH), W m_Pla_sortByForm (25, [some (.ref x0), some (.int x1), some (.int x2), some (.int x3), some (.int x4), some (.int x5), none], [(.ref y0), (.ref y1)]) h = xpush W m_Pla_sortByForm 28 [some (.ref x0), some (.int x1), some (.int x2), some (.int x3), some (.int x4), some (.int x5), none] [(.ref y1)] h (xldI (h.1 y0) x5)) ∧
    (∀ (x0 y1 : Nat) (x1 x2 x3 x4 x5 y0 : Int32) (h : xH), W m_Pla_sortByForm (28, [some (.ref x0), some (.int x1), some (.int x2), some (.int x3), some (.int x4), some (.int x5), none], [(.int y0), (.ref y1)]) h = xret W m_Pla_sortByForm 32 35 [some (.ref x0), some (.int x1), some (.int x2), some (.int x3), some (.int x4), some (.int x5), none] [(.ref y1)] (W m_Pla_formOf (0, [some (.int y0), some (.int x2), some (.int x3), some (.int x4)], []) h)) ∧
    (∀ (x0 y1 : Nat) (x1 x2 x3 x4 x5 y0 : Int32) (h : xH), W m_Pla_sortByForm (35, [some (.ref x0), some (.int x1), some (.int x2), some (.int x3), some (.int x4), some (.int x5), none], [(.int y0), (.ref y1)]) h = xpush W m_Pla_sortByForm 39 [some (.ref x0), some (.int x1), some (.int x2), some (.int x3), some (.int x4), some (.int x5), none] [(.int (y0 + (Int32.ofInt 1))), (.ref y1)] h (xldI (h.1 y1) (y0 + (Int32.ofInt 1)))) ∧
    (∀ (x0 y2 : Nat) (x1 x2 x3 x4 x5 y0 y1 : Int32) (h : xH), W m_Pla_sortByForm (39, [some (.ref x0), some (.int x1), some (.int x2), some (.int x3), some (.int x4), some (.int x5), none], [(.int y0), (.int y1), (.ref y2)]) h = xthn W m_Pla_sortByForm 42 [some (.ref x0), some (.int x1), some (.int x2), some (.int x3), some (.int x4), some (.int x5), none] [] (xstI (h.1 y2) h y2 y1 (y0 + (Int32.ofInt 1)))) ∧
    (∀ (x0 : Nat) (x1 x2 x3 x4 x5 : Int32) (h : xH), W m_Pla_sortByForm (42, [some (.ref x0), some (.int x1), some (.int x2), some (.int x3), some (.int x4), some (.int x5), none], []) h = W m_Pla_sortByForm (11, [some (.ref x0), some (.int x1), some (.int x2), some (.int x3), some (.int x4), some (.int (x5 + (Int32.ofInt 1))), none], []) h) ∧
    (∀ (x0 : Nat) (x1 x2 x3 x4 x5 : Int32) (h : xH), W m_Pla_sortByForm (48, [some (.ref x0), some (.int x1), some (.int x2), some (.int x3), some (.int x4), some (.int x5), none], []) h = W m_Pla_sortByForm (51, [some (.ref x0), some (.int x1), some (.int x2), some (.int x3), some (.int x4), some (.int (Int32.ofInt 1)), none], []) h) ∧
    (∀ (x0 y0 : Nat) (x1 x2 x3 x4 x5 y1 : Int32) (h : xH), W m_Pla_sortByForm (57, [some (.ref x0), some (.int x1), some (.int x2), some (.int x3), some (.int x4), some (.int x5), none], [(.ref y0), (.int y1)]) h = xpush W m_Pla_sortByForm 58 [some (.ref x0), some (.int x1), some (.int x2), some (.int x3), some (.int x4), some (.int x5), none] [(.int y1)] h (xaln (h.1 y0))) ∧
    (∀ (x0 : Nat) (x1 x2 x3 x4 x5 y0 y1 : Int32) (h : xH), W m_Pla_sortByForm (58, [some (.ref x0), some (.int x1), some (.int x2), some (.int x3), some (.int x4), some (.int x5), none], [(.int y0), (.int y1)]) h = if y0 ≤ y1 then W m_Pla_sortByForm (86, [some (.ref x0), some (.int x1), some (.int x2), some (.int x3), some (.int x4), some (.int x5), none], []) h else W m_Pla_sortByForm (61, [some (.ref x0), some (.int x1), some (.int x2), some (.int x3), some (.int x4), some (.int x5), none], []) h) ∧
    (∀ (x0 : Nat) (x1 x2 x3 x4 x5 : Int32) (h : xH), W m_Pla_sortByForm (61, [some (.ref x0), some (.int x1), some (.int x2), some (.int x3), some (.int x4), some (.int x5), none], []) h = xpush W m_Pla_sortByForm 65 [some (.ref x0), some (.int x1), some (.int x2), some (.int x3), some (.int x4), some (.int x5), none] [] h (xfld 3 2 (h.1 x0))) ∧
    (∀ (x0 y0 : Nat) (x1 x2 x3 x4 x5 : Int32) (h : xH), W m_Pla_sortByForm (65, [some (.ref x0), some (.int x1), some (.int x2), some (.int x3), some (.int x4), some (.int x5), none], [(.ref y0)]) h = xpush W m_Pla_sortByForm 69 [some (.ref x0), some (.int x1), some (.int x2), some (.int x3), some (.int x4), some (.int x5), none] [(.int x5), (.ref y0)] h (xldI (h.1 y0) x5)) ∧
    (∀ (x0 y2 : Nat) (x1 x2 x3 x4 x5 y0 y1 : Int32) (h : xH), W m_Pla_sortByForm (69, [some (.ref x0), some (.int x1), some (.int x2), some (.int x3), some (.int x4), some (.int x5), none], [(.int y0), (.int y1), (.ref y2)]) h = xpush W m_Pla_sortByForm 73 [some (.ref x0), some (.int x1), some (.int x2), some (.int x3), some (.int x4), some (.int x5), none] [(.int y0), (.int y1), (.ref y2)] h (xfld 3 2 (h.1 x0))) ∧
    (∀ (x0 y0 y3 : Nat) (x1 x2 x3 x4 x5 y1 y2 : Int32) (h : xH), W m_Pla_sortByForm (73, [some (.ref x0), some (.int x1), some (.int x2), some (.int x3), some (.int x4), some (.int x5), none], [(.ref y0), (.int y1), (.int y2), (.ref y3)]) h = xpush W m_Pla_sortByForm 78 [some (.ref x0), some (.int x1), some (.int x2), some (.int x3), some (.int x4), some (.int x5), none] [(.int y1), (.int y2), (.ref y3)] h (xldI (h.1 y0) (x5 - (Int32.ofInt 1)))) ∧
    (∀ (x0 y3 : Nat) (x1 x2 x3 x4 x5 y0 y1 y2 : Int32) (h : xH), W m_Pla_sortByForm (78, [some (.ref x0), some (.int x1), some (.int x2), some (.int x3), some (.int x4), some (.int x5), none], [(.int y0), (.int y1), (.int y2), (.ref y3)]) h = xthn W m_Pla_sortByForm 80 [some (.ref x0), some (.int x1), some (.int x2), some (.int x3), some (.int x4), some (.int x5), none] [] (xstI (h.1 y3) h y3 y2 (y1 + y0))) ∧
    (∀ (x0 : Nat) (x1 x2 x3 x4 x5 : Int32) (h : xH), W m_Pla_sortByForm (80, [some (.ref x0), some (.int x1), some (.int x2), some (.int x3), some (.int x4), some (.int x5), none], []) h = W m_Pla_sortByForm (51, [some (.ref x0), some (.int x1), some (.int x2), some (.int x3), some (.int x4), some (.int (x5 + (Int32.ofInt 1))), none], []) h) ∧
    (∀ (x0 : Nat) (x1 x2 x3 x4 x5 : Int32) (h : xH), W m_Pla_sortByForm (86, [some (.ref x0), some (.int x1), some (.int x2), some (.int x3), some (.int x4), some (.int x5), none], []) h = W m_Pla_sortByForm (89, [some (.ref x0), some (.int x1), some (.int x2), some (.int x3), some (.int x4), some (.int (Int32.ofInt 0)), none], []) h) ∧
    (∀ (x0 : Nat) (x1 x2 x3 x4 x5 : Int32) (x6 : Option Value) (h : xH), W m_Pla_sortByForm (95, [some (.ref x0), some (.int x1), some (.int x2), some (.int x3), some (.int x4), some (.int x5), x6], []) h = xpush W m_Pla_sortByForm 99 [some (.ref x0), some (.int x1), some (.int x2), some (.int x3), some (.int x4), some (.int x5), x6] [] h (xfld 3 0 (h.1 x0))) ∧
    (∀ (x0 y0 : Nat) (x1 x2 x3 x4 x5 : Int32) (x6 : Option Value) (h : xH), W m_Pla_sortByForm (99, [some (.ref x0), some (.int x1), some (.int x2), some (.int x3), some (.int x4), some (.int x5), x6], [(.ref y0)]) h = xpush W m_Pla_sortByForm 102 [some (.ref x0), some (.int x1), some (.int x2), some (.int x3), some (.int x4), some (.int x5), x6] [] h (xldI (h.1 y0) x5)) ∧
    (∀ (x0 : Nat) (x1 x2 x3 x4 x5 y0 : Int32) (x6 : Option Value) (h : xH), W m_Pla_sortByForm (102, [some (.ref x0), some (.int x1), some (.int x2), some (.int x3), some (.int x4), some (.int x5), x6], [(.int y0)]) h = xret W m_Pla_sortByForm 106 109 [some (.ref x0), some (.int x1), some (.int x2), some (.int x3), some (.int x4), some (.int x5), x6] [] (W m_Pla_formOf (0, [some (.int y0), some (.int x2), some (.int x3), some (.int x4)], []) h)) ∧
    (∀ (x0 : Nat) (x1 x2 x3 x4 x5 y0 : Int32) (x6 : Option Value) (h : xH), W m_Pla_sortByForm (109, [some (.ref x0), some (.int x1), some (.int x2), some (.int x3), some (.int x4), some (.int x5), x6], [(.int y0)]) h = xpush W m_Pla_sortByForm 115 [some (.ref x0), some (.int x1), some (.int x2), some (.int x3), some (.int x4), some (.int x5), some (.int y0)] [] h (xfld 3 1 (h.1 x0))) ∧
    (∀ (x0 y0 : Nat) (x1 x2 x3 x4 x5 x6 : Int32) (h : xH), W m_Pla_sortByForm (115, [some (.ref x0), some (.int x1), some (.int x2), some (.int x3), some (.int x4), some (.int x5), some (.int x6)], [(.ref y0)]) h = xpush W m_Pla_sortByForm 119 [some (.ref x0), some (.int x1), some (.int x2), some (.int x3), some (.int x4), some (.int x5), some (.int x6)] [(.ref y0)] h (xfld 3 2 (h.1 x0))) ∧
    (∀ (x0 y0 y1 : Nat) (x1 x2 x3 x4 x5 x6 : Int32) (h : xH), W m_Pla_sortByForm (119, [some (.ref x0), some (.int x1), some (.int x2), some (.int x3), some (.int x4), some (.int x5), some (.int x6)], [(.ref y0), (.ref y1)]) h = xpush W m_Pla_sortByForm 122 [some (.ref x0), some (.int x1), some (.int x2), some (.int x3), some (.int x4), some (.int x5), some (.int x6)] [(.ref y1)] h (xldI (h.1 y0) x6)) ∧
    (∀ (x0 y1 : Nat) (x1 x2 x3 x4 x5 x6 y0 : Int32) (h : xH), W m_Pla_sortByForm (122, [some (.ref x0), some (.int x1), some (.int x2), some (.int x3), some (.int x4), some (.int x5), some (.int x6)], [(.int y0), (.ref y1)]) h = xpush W m_Pla_sortByForm 126 [some (.ref x0), some (.int x1), some (.int x2), some (.int x3), some (.int x4), some (.int x5), some (.int x6)] [(.int y0), (.ref y1)] h (xfld 3 0 (h.1 x0))) ∧
    (∀ (x0 y0 y2 : Nat) (x1 x2 x3 x4 x5 x6 y1 : Int32) (h : xH), W m_Pla_sortByForm (126, [some (.ref x0), some (.int x1), some (.int x2), some (.int x3), some (.int x4), some (.int x5), some (.int x6)], [(.ref y0), (.int y1), (.ref y2)]) h = xpush W m_Pla_sortByForm 129 [some (.ref x0), some (.int x1), some (.int x2), some (.int x3), some (.int x4), some (.int x5), some (.int x6)] [(.int y1), (.ref y2)] h (xldI (h.1 y0) x5)) ∧
    (∀ (x0 y2 : Nat) (x1 x2 x3 x4 x5 x6 y0 y1 : Int32) (h : xH), W m_Pla_sortByForm (129, [some (.ref x0), some (.int x1), some (.int x2), some (.int x3), some (.int x4), some (.int x5), some (.int x6)], [(.int y0), (.int y1), (.ref y2)]) h = xthn W m_Pla_sortByForm 130 [some (.ref x0), some (.int x1), some (.int x2), some (.int x3), some (.int x4), some (.int x5), some (.int x6)] [] (xstI (h.1 y2) h y2 y1 y0)) ∧
    (∀ (x0 : Nat) (x1 x2 x3 x4 x5 x6 : Int32) (h : xH), W m_Pla_sortByForm (130, [some (.ref x0), some (.int x1), some (.int x2), some (.int x3), some (.int x4), some (.int x5), some (.int x6)], []) h = xpush W m_Pla_sortByForm 134 [some (.ref x0), some (.int x1), some (.int x2), some (.int x3), some (.int x4), some (.int x5), some (.int x6)] [] h (xfld 3 2 (h.1 x0))) ∧
    (∀ (x0 y0 : Nat) (x1 x2 x3 x4 x5 x6 : Int32) (h : xH), W m_Pla_sortByForm (134, [some (.ref x0), some (.int x1), some (.int x2), some (.int x3), some (.int x4), some (.int x5), some (.int x6)], [(.ref y0)]) h = xpush W m_Pla_sortByForm 138 [some (.ref x0), some (.int x1), some (.int x2), some (.int x3), some (.int x4), some (.int x5), some (.int x6)] [(.int x6), (.ref y0)] h (xldI (h.1 y0) x6)) ∧
    (∀ (x0 y2 : Nat) (x1 x2 x3 x4 x5 x6 y0 y1 : Int32) (h : xH), W m_Pla_sortByForm (138, [some (.ref x0), some (.int x1), some (.int x2), some (.int x3), some (.int x4), some (.int x5), some (.int x6)], [(.int y0), (.int y1), (.ref y2)]) h = xthn W m_Pla_sortByForm 141 [some (.ref x0), some (.int x1), some (.int x2), some (.int x3), some (.int x4), some (.int x5), some (.int x6)] [] (xstI (h.1 y2) h y2 y1 (y0 + (Int32.ofInt 1)))) ∧
    (∀ (x0 : Nat) (x1 x2 x3 x4 x5 x6 : Int32) (h : xH), W m_Pla_sortByForm (141, [some (.ref x0), some (.int x1), some (.int x2), some (.int x3), some (.int x4), some (.int x5), some (.int x6)], []) h = W m_Pla_sortByForm (89, [some (.ref x0), some (.int x1), some (.int x2), some (.int x3), some (.int x4), some (.int (x5 + (Int32.ofInt 1))), some (.int x6)], []) h) ∧
    (∀ (x0 : Nat) (x1 x2 x3 x4 x5 : Int32) (x6 : Option Value) (h : xH), W m_Pla_sortByForm (147, [some (.ref x0), some (.int x1), some (.int x2), some (.int x3), some (.int x4), some (.int x5), x6], []) h = some (.inl none, h)) :=
  ⟨fun _ _ _ _ _ _ => (xW_k hW 2 _ _ _).trans xq_fld,
   fun _ _ _ _ _ _ _ => (xW_k hW 2 _ _ _).trans rfl,
   fun _ _ _ _ _ _ => (xW_k hW 2 _ _ _).trans rfl,
   fun _ _ _ _ _ _ _ => (xW_k hW 2 _ _ _).trans xq_fld,
   fun _ _ _ _ _ _ _ _ => (xW_k hW 2 _ _ _).trans xq_fld,
   fun _ _ _ _ _ _ _ _ _ => (xW_k hW 2 _ _ _).trans xq_ldI,
   fun _ _ _ _ _ _ _ _ _ => (xW_k hW 4 _ _ _).trans rfl,
   fun _ _ _ _ _ _ _ _ _ => (xW_k hW 4 _ _ _).trans xq_ldI,
   fun _ _ _ _ _ _ _ _ _ _ => (xW_k hW 3 _ _ _).trans xq_stI,
   fun _ _ _ _ _ _ _ => (xW_k hW 2 _ _ _).trans rfl,
   fun _ _ _ _ _ _ _ => (xW_k hW 2 _ _ _).trans rfl,
   fun _ _ _ _ _ _ _ _ _ => (xW_k hW 1 _ _ _).trans xq_aln,
   fun _ _ _ _ _ _ _ _ _ => (xW_k hW 1 _ _ _).trans rfl,
   fun _ _ _ _ _ _ _ => (xW_k hW 2 _ _ _).trans xq_fld,
   fun _ _ _ _ _ _ _ _ => (xW_k hW 3 _ _ _).trans xq_ldI,
   fun _ _ _ _ _ _ _ _ _ _ => (xW_k hW 2 _ _ _).trans xq_fld,
   fun _ _ _ _ _ _ _ _ _ _ _ => (xW_k hW 4 _ _ _).trans xq_ldI,
   fun _ _ _ _ _ _ _ _ _ _ _ => (xW_k hW 2 _ _ _).trans xq_stI,
   fun _ _ _ _ _ _ _ => (xW_k hW 2 _ _ _).trans rfl,
   fun _ _ _ _ _ _ _ => (xW_k hW 2 _ _ _).trans rfl,
   fun _ _ _ _ _ _ _ _ => (xW_k hW 2 _ _ _).trans xq_fld,
   fun _ _ _ _ _ _ _ _ _ => (xW_k hW 2 _ _ _).trans xq_ldI,
   fun _ _ _ _ _ _ _ _ _ => (xW_k hW 4 _ _ _).trans rfl,
   fun _ _ _ _ _ _ _ _ _ => (xW_k hW 3 _ _ _).trans xq_fld,
   fun _ _ _ _ _ _ _ _ _ => (xW_k hW 2 _ _ _).trans xq_fld,
   fun _ _ _ _ _ _ _ _ _ _ => (xW_k hW 2 _ _ _).trans xq_ldI,
   fun _ _ _ _ _ _ _ _ _ _ => (xW_k hW 2 _ _ _).trans xq_fld,
   fun _ _ _ _ _ _ _ _ _ _ _ => (xW_k hW 2 _ _ _).trans xq_ldI,
   fun _ _ _ _ _ _ _ _ _ _ _ => (xW_k hW 1 _ _ _).trans xq_stI,
   fun _ _ _ _ _ _ _ _ => (xW_k hW 2 _ _ _).trans xq_fld,
   fun _ _ _ _ _ _ _ _ _ => (xW_k hW 3 _ _ _).trans xq_ldI,
   fun _ _ _ _ _ _ _ _ _ _ _ => (xW_k hW 3 _ _ _).trans xq_stI,
   fun _ _ _ _ _ _ _ _ => (xW_k hW 2 _ _ _).trans rfl,
   fun _ _ _ _ _ _ _ _ => (xW_k hW 1 _ _ _).trans rfl⟩
theorem L_Pla_sortByForm_11 (hW : ∀ M f h, W M f h = xbody V xF0 xG W M f h) :
    (∀ (x0 : Nat) (x1 x2 x3 x4 x5 : Int32) (h : xH), W m_Pla_sortByForm (11, [some (.ref x0), some (.int x1), some (.int x2), some (.int x3), some (.int x4), some (.int x5), none], []) h = if x1 ≤ x5 then W m_Pla_sortByForm (48, [some (.ref x0), some (.int x1), some (.int x2), some (.int x3), some (.int x4), some (.int x5), none], []) h else W m_Pla_sortByForm (17, [some (.ref x0), some (.int x1), some (.int x2), some (.int x3), some (.int x4), some (.int x5), none], []) h) :=
  fun _ _ _ _ _ _ _ => (xW_k hW 3 _ _ _).trans rfl
theorem L_Pla_sortByForm_51 (hW : ∀ M f h, W M f h = xbody V xF0 xG W M f h) :
    (∀ (x0 : Nat) (x1 x2 x3 x4 x5 : Int32) (h : xH), W m_Pla_sortByForm (51, [some (.ref x0), some (.int x1), some (.int x2), some (.int x3), some (.int x4), some (.int x5), none], []) h = xpush W m_Pla_sortByForm 57 [some (.ref x0), some (.int x1), some (.int x2), some (.int x3), some (.int x4), some (.int x5), none] [(.int x5)] h (xfld 3 2 (h.1 x0))) :=
  fun _ _ _ _ _ _ _ => (xW_k hW 3 _ _ _).trans xq_fld
theorem L_Pla_sortByForm_89 (hW : ∀ M f h, W M f h = xbody V xF0 xG W M f h) :
    (∀ (x0 : Nat) (x1 x2 x3 x4 x5 : Int32) (x6 : Option Value) (h : xH), W m_Pla_sortByForm (89, [some (.ref x0), some (.int x1), some (.int x2), some (.int x3), some (.int x4), some (.int x5), x6], []) h = if x1 ≤ x5 then W m_Pla_sortByForm (147, [some (.ref x0), some (.int x1), some (.int x2), some (.int x3), some (.int x4), some (.int x5), x6], []) h else W m_Pla_sortByForm (95, [some (.ref x0), some (.int x1), some (.int x2), some (.int x3), some (.int x4), some (.int x5), x6], []) h) :=
  fun _ _ _ _ _ _ _ _ => (xW_k hW 3 _ _ _).trans rfl
theorem X_Pla_sortByForm : xhs m_Pla_sortByForm = [] := rfl
theorem E_Arrays_fill (hW : ∀ M f h, W M f h = xbody V xF0 xG W M f h) :
    (∀ (x0 : Nat) (x1 : Int32) (h : xH), W m_Arrays_fill (0, [some (.ref x0), some (.int x1), none, none], []) h = xpush W m_Arrays_fill 4 [some (.ref x0), some (.int x1), some (.int (Int32.ofInt 0)), none] [] h (xaln (h.1 x0))) ∧
    (∀ (x0 : Nat) (x1 x2 y0 : Int32) (h : xH), W m_Arrays_fill (4, [some (.ref x0), some (.int x1), some (.int x2), none], [(.int y0)]) h = W m_Arrays_fill (5, [some (.ref x0), some (.int x1), some (.int x2), some (.int y0)], []) h) ∧
    (∀ (x0 : Nat) (x1 x2 x3 : Int32) (h : xH), W m_Arrays_fill (10, [some (.ref x0), some (.int x1), some (.int x2), some (.int x3)], []) h = xthn W m_Arrays_fill 14 [some (.ref x0), some (.int x1), some (.int x2), some (.int x3)] [] (xstI (h.1 x0) h x0 x2 x1)) ∧
    (∀ (x0 : Nat) (x1 x2 x3 : Int32) (h : xH), W m_Arrays_fill (14, [some (.ref x0), some (.int x1), some (.int x2), some (.int x3)], []) h = W m_Arrays_fill (5, [some (.ref x0), some (.int x1), some (.int (x2 + (Int32.ofInt 1))), some (.int x3)], []) h) ∧
    (∀ (x0 : Nat) (x1 x2 x3 : Int32) (h : xH), W m_Arrays_fill (20, [some (.ref x0), some (.int x1), some (.int x2), some (.int x3)], []) h = some (.inl none, h)) :=
  ⟨fun _ _ _ => (xW_k hW 4 _ _ _).trans xq_aln,
   fun _ _ _ _ _ => (xW_k hW 1 _ _ _).trans rfl,
   fun _ _ _ _ _ => (xW_k hW 4 _ _ _).trans xq_stI,
   fun _ _ _ _ _ => (xW_k hW 2 _ _ _).trans rfl,
   fun _ _ _ _ _ => (xW_k hW 1 _ _ _).trans rfl⟩
theorem L_Arrays_fill_5 (hW : ∀ M f h, W M f h = xbody V xF0 xG W M f h) :
    (∀ (x0 : Nat) (x1 x2 x3 : Int32) (h : xH), W m_Arrays_fill (5, [some (.ref x0), some (.int x1), some (.int x2), some (.int x3)], []) h = if x3 ≤ x2 then W m_Arrays_fill (20, [some (.ref x0), some (.int x1), some (.int x2), some (.int x3)], []) h else W m_Arrays_fill (10, [some (.ref x0), some (.int x1), some (.int x2), some (.int x3)], []) h) :=
  fun _ _ _ _ _ => (xW_k hW 3 _ _ _).trans rfl
theorem X_Arrays_fill : xhs m_Arrays_fill = [] := rfl
theorem E_Pla_formOf (hW : ∀ M f h, W M f h = xbody V xF0 xG W M f h) :
    (∀ (x0 x1 x2 x3 : Int32) (h : xH), W m_Pla_formOf (0, [some (.int x0), some (.int x1), some (.int x2), some (.int x3)], []) h = if x3 = (Int32.ofInt 0) then W m_Pla_formOf (4, [some (.int x0), some (.int x1), some (.int x2), some (.int x3)], []) h else W m_Pla_formOf (9, [some (.int x0), some (.int x1), some (.int x2), some (.int x3)], []) h) ∧
    (∀ (x0 x1 x2 x3 : Int32) (h : xH), W m_Pla_formOf (4, [some (.int x0), some (.int x1), some (.int x2), some (.int x3)], []) h = xret W m_Pla_formOf 5 8 [some (.int x0), some (.int x1), some (.int x2), some (.int x3)] [] (W m_Pla_distanceOf (0, [some (.int x0)], []) h)) ∧
    (∀ (x0 x1 x2 x3 y0 : Int32) (h : xH), W m_Pla_formOf (8, [some (.int x0), some (.int x1), some (.int x2), some (.int x3)], [(.int y0)]) h = some (.inl (some (.int y0)), h)) ∧
    (∀ (x0 x1 x2 x3 : Int32) (h : xH), W m_Pla_formOf (9, [some (.int x0), some (.int x1), some (.int x2), some (.int x3)], []) h = if x3 = (Int32.ofInt 1) then W m_Pla_formOf (14, [some (.int x0), some (.int x1), some (.int x2), some (.int x3)], []) h else W m_Pla_formOf (31, [some (.int x0), some (.int x1), some (.int x2), some (.int x3)], []) h) ∧
    (∀ (x0 x1 x2 x3 : Int32) (h : xH), W m_Pla_formOf (14, [some (.int x0), some (.int x1), some (.int x2), some (.int x3)], []) h = xret W m_Pla_formOf 16 19 [some (.int x0), some (.int x1), some (.int x2), some (.int x3)] [(.int x1)] (W m_Pla_yOf (0, [some (.int x0)], []) h)) ∧
    (∀ (x0 x1 x2 x3 y0 y1 : Int32) (h : xH), W m_Pla_formOf (19, [some (.int x0), some (.int x1), some (.int x2), some (.int x3)], [(.int y0), (.int y1)]) h = xret W m_Pla_formOf 22 25 [some (.int x0), some (.int x1), some (.int x2), some (.int x3)] [(.int x2), (.int (y1 * y0))] (W m_Pla_xOf (0, [some (.int x0)], []) h)) ∧
    (∀ (x0 x1 x2 x3 y0 y1 y2 : Int32) (h : xH), W m_Pla_formOf (25, [some (.int x0), some (.int x1), some (.int x2), some (.int x3)], [(.int y0), (.int y1), (.int y2)]) h = xret W m_Pla_formOf 27 30 [some (.int x0), some (.int x1), some (.int x2), some (.int x3)] [] (W m_Math_abs (0, [some (.int (y2 - (y1 * y0)))], []) h)) ∧
    (∀ (x0 x1 x2 x3 y0 : Int32) (h : xH), W m_Pla_formOf (30, [some (.int x0), some (.int x1), some (.int x2), some (.int x3)], [(.int y0)]) h = some (.inl (some (.int y0)), h)) ∧
    (∀ (x0 x1 x2 x3 : Int32) (h : xH), W m_Pla_formOf (31, [some (.int x0), some (.int x1), some (.int x2), some (.int x3)], []) h = xret W m_Pla_formOf 32 35 [some (.int x0), some (.int x1), some (.int x2), some (.int x3)] [] (W m_Pla_xOf (0, [some (.int x0)], []) h)) ∧
    (∀ (x0 x1 x2 x3 y0 : Int32) (h : xH), W m_Pla_formOf (35, [some (.int x0), some (.int x1), some (.int x2), some (.int x3)], [(.int y0)]) h = xret W m_Pla_formOf 35 38 [some (.int x0), some (.int x1), some (.int x2), some (.int x3)] [] (W m_Math_abs (0, [some (.int y0)], []) h)) ∧
    (∀ (x0 x1 x2 x3 y0 : Int32) (h : xH), W m_Pla_formOf (38, [some (.int x0), some (.int x1), some (.int x2), some (.int x3)], [(.int y0)]) h = xret W m_Pla_formOf 39 42 [some (.int x0), some (.int x1), some (.int x2), some (.int x3)] [(.int y0)] (W m_Pla_yOf (0, [some (.int x0)], []) h)) ∧
    (∀ (x0 x1 x2 x3 y0 y1 : Int32) (h : xH), W m_Pla_formOf (42, [some (.int x0), some (.int x1), some (.int x2), some (.int x3)], [(.int y0), (.int y1)]) h = xret W m_Pla_formOf 42 45 [some (.int x0), some (.int x1), some (.int x2), some (.int x3)] [(.int y1)] (W m_Math_abs (0, [some (.int y0)], []) h)) ∧
    (∀ (x0 x1 x2 x3 y0 y1 : Int32) (h : xH), W m_Pla_formOf (45, [some (.int x0), some (.int x1), some (.int x2), some (.int x3)], [(.int y0), (.int y1)]) h = some (.inl (some (.int (y1 + y0))), h)) :=
  ⟨fun _ _ _ _ _ => (xW_k hW 2 _ _ _).trans rfl,
   fun _ _ _ _ _ => (xW_k hW 2 _ _ _).trans rfl,
   fun _ _ _ _ _ _ => (xW_k hW 1 _ _ _).trans rfl,
   fun _ _ _ _ _ => (xW_k hW 3 _ _ _).trans rfl,
   fun _ _ _ _ _ => (xW_k hW 3 _ _ _).trans rfl,
   fun _ _ _ _ _ _ _ => (xW_k hW 4 _ _ _).trans rfl,
   fun _ _ _ _ _ _ _ _ => (xW_k hW 3 _ _ _).trans rfl,
   fun _ _ _ _ _ _ => (xW_k hW 1 _ _ _).trans rfl,
   fun _ _ _ _ _ => (xW_k hW 2 _ _ _).trans rfl,
   fun _ _ _ _ _ _ => (xW_k hW 1 _ _ _).trans rfl,
   fun _ _ _ _ _ _ => (xW_k hW 2 _ _ _).trans rfl,
   fun _ _ _ _ _ _ _ => (xW_k hW 1 _ _ _).trans rfl,
   fun _ _ _ _ _ _ _ => (xW_k hW 2 _ _ _).trans rfl⟩
theorem X_Pla_formOf : xhs m_Pla_formOf = [] := rfl
theorem E_Math_abs (hW : ∀ M f h, W M f h = xbody V xF0 xG W M f h) :
    (∀ (x0 : Int32) (h : xH), W m_Math_abs (0, [some (.int x0)], []) h = if (Int32.ofInt 0) ≤ x0 then W m_Math_abs (9, [some (.int x0)], []) h else W m_Math_abs (4, [some (.int x0)], []) h) ∧
    (∀ (x0 : Int32) (h : xH), W m_Math_abs (4, [some (.int x0)], []) h = some (.inl (some (.int (-x0))), h)) ∧
    (∀ (x0 : Int32) (h : xH), W m_Math_abs (9, [some (.int x0)], []) h = some (.inl (some (.int x0)), h)) :=
  ⟨fun _ _ => (xW_k hW 2 _ _ _).trans rfl,
   fun _ _ => (xW_k hW 4 _ _ _).trans rfl,
   fun _ _ => (xW_k hW 2 _ _ _).trans rfl⟩
theorem X_Math_abs : xhs m_Math_abs = [] := rfl
theorem E_Scr_init (hW : ∀ M f h, W M f h = xbody V xF0 xG W M f h) :
    (∀ (x0 x1 : Nat) (h : xH), W m_Scr_init (0, [some (.ref x0), some (.ref x1)], []) h = xthn W m_Scr_init 9 [some (.ref x0), some (.ref x1)] [] (xptf (h.1 x0) h x0 4 0 2 (.ref x1))) ∧
    (∀ (x0 x1 : Nat) (h : xH), W m_Scr_init (9, [some (.ref x0), some (.ref x1)], []) h = xmk W m_Scr_init 15 [some (.ref x0), some (.ref x1)] [(.ref x0)] h 0 (Int32.ofInt 400)) ∧
    (∀ (x0 x1 y0 y1 : Nat) (h : xH), W m_Scr_init (15, [some (.ref x0), some (.ref x1)], [(.ref y0), (.ref y1)]) h = xthn W m_Scr_init 18 [some (.ref x0), some (.ref x1)] [] (xptf (h.1 y1) h y1 4 1 2 (.ref y0))) ∧
    (∀ (x0 x1 : Nat) (h : xH), W m_Scr_init (18, [some (.ref x0), some (.ref x1)], []) h = xmk W m_Scr_init 24 [some (.ref x0), some (.ref x1)] [(.ref x0)] h 0 (Int32.ofInt 400)) ∧
    (∀ (x0 x1 y0 y1 : Nat) (h : xH), W m_Scr_init (24, [some (.ref x0), some (.ref x1)], [(.ref y0), (.ref y1)]) h = xthn W m_Scr_init 27 [some (.ref x0), some (.ref x1)] [] (xptf (h.1 y1) h y1 4 2 2 (.ref y0))) ∧
    (∀ (x0 x1 : Nat) (h : xH), W m_Scr_init (27, [some (.ref x0), some (.ref x1)], []) h = xret W m_Scr_init 31 34 [some (.ref x0), some (.ref x1)] [] (xrc 4 (h.1 x0) (W m_Scr_lay (0, [some (.ref x0), some (.int (Int32.ofInt 4)), some (.int (Int32.ofInt 0)), some (.int (Int32.ofInt 0)), none], []) h))) ∧
    (∀ (x0 x1 : Nat) (h : xH), W m_Scr_init (34, [some (.ref x0), some (.ref x1)], []) h = some (.inl none, h)) :=
  ⟨fun _ _ _ => (xW_k hW 5 _ _ _).trans xq_ptf,
   fun _ _ _ => (xW_k hW 3 _ _ _).trans rfl,
   fun _ _ _ _ _ => (xW_k hW 1 _ _ _).trans xq_ptf,
   fun _ _ _ => (xW_k hW 3 _ _ _).trans rfl,
   fun _ _ _ _ _ => (xW_k hW 1 _ _ _).trans xq_ptf,
   fun _ _ _ => (xW_k hW 5 _ _ _).trans xq_rc,
   fun _ _ _ => (xW_k hW 1 _ _ _).trans rfl⟩
theorem X_Scr_init : xhs m_Scr_init = [] := rfl
theorem E_Scr_lay (hW : ∀ M f h, W M f h = xbody V xF0 xG W M f h) :
    (∀ (x0 : Nat) (x1 x2 x3 : Int32) (h : xH), W m_Scr_lay (0, [some (.ref x0), some (.int x1), some (.int x2), some (.int x3), none], []) h = xthn W m_Scr_lay 11 [some (.ref x0), some (.int x1), some (.int x2), some (.int x3), none] [] (xptf (h.1 x0) h x0 4 3 0 (.int ((x1 * x1) + (x2 * x2))))) ∧
    (∀ (x0 : Nat) (x1 x2 x3 : Int32) (h : xH), W m_Scr_lay (11, [some (.ref x0), some (.int x1), some (.int x2), some (.int x3), none], []) h = xret W m_Scr_lay 14 17 [some (.ref x0), some (.int x1), some (.int x2), some (.int x3), none] [(.ref x0)] (W m_Scr_greatestDivisor (0, [some (.int x1), some (.int x2), none], []) h)) ∧
    (∀ (x0 y1 : Nat) (x1 x2 x3 y0 : Int32) (h : xH), W m_Scr_lay (17, [some (.ref x0), some (.int x1), some (.int x2), some (.int x3), none], [(.int y0), (.ref y1)]) h = xthn W m_Scr_lay 20 [some (.ref x0), some (.int x1), some (.int x2), some (.int x3), none] [] (xptf (h.1 y1) h y1 4 4 0 (.int y0))) ∧
    (∀ (x0 : Nat) (x1 x2 x3 : Int32) (h : xH), W m_Scr_lay (20, [some (.ref x0), some (.int x1), some (.int x2), some (.int x3), none], []) h = xret W m_Scr_lay 24 27 [some (.ref x0), some (.int x1), some (.int x2), some (.int x3), none] [(.ref x0)] (xrc 4 (h.1 x0) (W m_Scr_shiftOfRows (0, [some (.ref x0), some (.int x1), some (.int x2), none], []) h))) ∧
    (∀ (x0 y1 : Nat) (x1 x2 x3 y0 : Int32) (h : xH), W m_Scr_lay (27, [some (.ref x0), some (.int x1), some (.int x2), some (.int x3), none], [(.int y0), (.ref y1)]) h = xthn W m_Scr_lay 30 [some (.ref x0), some (.int x1), some (.int x2), some (.int x3), none] [] (xptf (h.1 y1) h y1 4 5 0 (.int y0))) ∧
    (∀ (x0 : Nat) (x1 x2 x3 : Int32) (h : xH), W m_Scr_lay (30, [some (.ref x0), some (.int x1), some (.int x2), some (.int x3), none], []) h = xpush W m_Scr_lay 34 [some (.ref x0), some (.int x1), some (.int x2), some (.int x3), none] [] h (xfld 4 0 (h.1 x0))) ∧
    (∀ (x0 y0 : Nat) (x1 x2 x3 : Int32) (h : xH), W m_Scr_lay (34, [some (.ref x0), some (.int x1), some (.int x2), some (.int x3), none], [(.ref y0)]) h = xpush W m_Scr_lay 38 [some (.ref x0), some (.int x1), some (.int x2), some (.int x3), none] [(.ref y0)] h (xfld 4 3 (h.1 x0))) ∧
    (∀ (x0 y1 : Nat) (x1 x2 x3 y0 : Int32) (h : xH), W m_Scr_lay (38, [some (.ref x0), some (.int x1), some (.int x2), some (.int x3), none], [(.int y0), (.ref y1)]) h = xret W m_Scr_lay 38 41 [some (.ref x0), some (.int x1), some (.int x2), some (.int x3), none] [] (xrc 3 (h.1 y1) (W m_Pla_countWithin (0, [some (.ref y1), some (.int y0), none], []) h))) ∧
    (∀ (x0 : Nat) (x1 x2 x3 y0 : Int32) (h : xH), W m_Scr_lay (41, [some (.ref x0), some (.int x1), some (.int x2), some (.int x3), none], [(.int y0)]) h = xpush W m_Scr_lay 48 [some (.ref x0), some (.int x1), some (.int x2), some (.int x3), some (.int y0)] [(.ref x0)] h (xfld 4 0 (h.1 x0))) ∧
    (∀ (x0 y0 y1 : Nat) (x1 x2 x3 x4 : Int32) (h : xH), W m_Scr_lay (48, [some (.ref x0), some (.int x1), some (.int x2), some (.int x3), some (.int x4)], [(.ref y0), (.ref y1)]) h = xret W m_Scr_lay 53 56 [some (.ref x0), some (.int x1), some (.int x2), some (.int x3), some (.int x4)] [(.ref y1)] (xrc 3 (h.1 y0) (W m_Pla_inOrder (0, [some (.ref y0), some (.int x4), some (.int x1), some (.int x2), some (.int x3)], []) h))) ∧
    (∀ (x0 y0 y1 : Nat) (x1 x2 x3 x4 : Int32) (h : xH), W m_Scr_lay (56, [some (.ref x0), some (.int x1), some (.int x2), some (.int x3), some (.int x4)], [(.ref y0), (.ref y1)]) h = xret W m_Scr_lay 58 61 [some (.ref x0), some (.int x1), some (.int x2), some (.int x3), some (.int x4)] [] (xrc 4 (h.1 y1) (W m_Scr_giveRanks (0, [some (.ref y1), some (.ref y0), some (.int x4), none, none, none], []) h))) ∧
    (∀ (x0 : Nat) (x1 x2 x3 x4 : Int32) (h : xH), W m_Scr_lay (61, [some (.ref x0), some (.int x1), some (.int x2), some (.int x3), some (.int x4)], []) h = some (.inl none, h)) :=
  ⟨fun _ _ _ _ _ => (xW_k hW 9 _ _ _).trans xq_ptf,
   fun _ _ _ _ _ => (xW_k hW 4 _ _ _).trans rfl,
   fun _ _ _ _ _ _ _ => (xW_k hW 1 _ _ _).trans xq_ptf,
   fun _ _ _ _ _ => (xW_k hW 5 _ _ _).trans xq_rc,
   fun _ _ _ _ _ _ _ => (xW_k hW 1 _ _ _).trans xq_ptf,
   fun _ _ _ _ _ => (xW_k hW 2 _ _ _).trans xq_fld,
   fun _ _ _ _ _ _ => (xW_k hW 2 _ _ _).trans xq_fld,
   fun _ _ _ _ _ _ _ => (xW_k hW 1 _ _ _).trans xq_rc,
   fun _ _ _ _ _ _ => (xW_k hW 4 _ _ _).trans xq_fld,
   fun _ _ _ _ _ _ _ _ => (xW_k hW 5 _ _ _).trans xq_rc,
   fun _ _ _ _ _ _ _ _ => (xW_k hW 2 _ _ _).trans xq_rc,
   fun _ _ _ _ _ _ => (xW_k hW 1 _ _ _).trans rfl⟩
theorem X_Scr_lay : xhs m_Scr_lay = [] := rfl
theorem E_Scr_greatestDivisor (hW : ∀ M f h, W M f h = xbody V xF0 xG W M f h) :
    (∀ (x0 x1 : Int32) (h : xH), W m_Scr_greatestDivisor (0, [some (.int x0), some (.int x1), none], []) h = W m_Scr_greatestDivisor (3, [some (.int x0), some (.int x1), some (.int (Int32.ofInt 20))], []) h) ∧
    (∀ (x0 x1 x2 : Int32) (h : xH), W m_Scr_greatestDivisor (8, [some (.int x0), some (.int x1), some (.int x2)], []) h = xpush W m_Scr_greatestDivisor 11 [some (.int x0), some (.int x1), some (.int x2)] [] h (xdv x2 (.int (x0 - x0 / x2 * x2)))) ∧
    (∀ (x0 x1 x2 y0 : Int32) (h : xH), W m_Scr_greatestDivisor (11, [some (.int x0), some (.int x1), some (.int x2)], [(.int y0)]) h = if y0 = (Int32.ofInt 0) then W m_Scr_greatestDivisor (14, [some (.int x0), some (.int x1), some (.int x2)], []) h else W m_Scr_greatestDivisor (20, [some (.int x0), some (.int x1), some (.int x2)], []) h) ∧
    (∀ (x0 x1 x2 : Int32) (h : xH), W m_Scr_greatestDivisor (14, [some (.int x0), some (.int x1), some (.int x2)], []) h = xpush W m_Scr_greatestDivisor 17 [some (.int x0), some (.int x1), some (.int x2)] [] h (xdv x2 (.int (x1 - x1 / x2 * x2)))) ∧
    (∀ (x0 x1 x2 y0 : Int32) (h : xH), W m_Scr_greatestDivisor (17, [some (.int x0), some (.int x1), some (.int x2)], [(.int y0)]) h = if y0 = (Int32.ofInt 0) then W m_Scr_greatestDivisor (26, [some (.int x0), some (.int x1), some (.int x2)], []) h else W m_Scr_greatestDivisor (20, [some (.int x0), some (.int x1), some (.int x2)], []) h) ∧
    (∀ (x0 x1 x2 : Int32) (h : xH), W m_Scr_greatestDivisor (20, [some (.int x0), some (.int x1), some (.int x2)], []) h = W m_Scr_greatestDivisor (3, [some (.int x0), some (.int x1), some (.int (x2 + (Int32.ofInt (-1))))], []) h) ∧
    (∀ (x0 x1 x2 : Int32) (h : xH), W m_Scr_greatestDivisor (26, [some (.int x0), some (.int x1), some (.int x2)], []) h = some (.inl (some (.int x2)), h)) :=
  ⟨fun _ _ _ => (xW_k hW 2 _ _ _).trans rfl,
   fun _ _ _ _ => (xW_k hW 3 _ _ _).trans xq_dv,
   fun _ _ _ _ _ => (xW_k hW 1 _ _ _).trans rfl,
   fun _ _ _ _ => (xW_k hW 3 _ _ _).trans xq_dv,
   fun _ _ _ _ _ => (xW_k hW 1 _ _ _).trans rfl,
   fun _ _ _ _ => (xW_k hW 2 _ _ _).trans rfl,
   fun _ _ _ _ => (xW_k hW 2 _ _ _).trans rfl⟩
theorem L_Scr_greatestDivisor_3 (hW : ∀ M f h, W M f h = xbody V xF0 xG W M f h) :
    (∀ (x0 x1 x2 : Int32) (h : xH), W m_Scr_greatestDivisor (3, [some (.int x0), some (.int x1), some (.int x2)], []) h = if x2 ≤ (Int32.ofInt 1) then W m_Scr_greatestDivisor (26, [some (.int x0), some (.int x1), some (.int x2)], []) h else W m_Scr_greatestDivisor (8, [some (.int x0), some (.int x1), some (.int x2)], []) h) :=
  fun _ _ _ _ => (xW_k hW 3 _ _ _).trans rfl
theorem X_Scr_greatestDivisor : xhs m_Scr_greatestDivisor = [] := rfl
theorem E_Scr_shiftOfRows (hW : ∀ M f h, W M f h = xbody V xF0 xG W M f h) :
    (∀ (x0 : Nat) (x1 x2 : Int32) (h : xH), W m_Scr_shiftOfRows (0, [some (.ref x0), some (.int x1), some (.int x2), none], []) h = W m_Scr_shiftOfRows (2, [some (.ref x0), some (.int x1), some (.int x2), some (.int (Int32.ofInt 0))], []) h) ∧
    (∀ (x0 : Nat) (x1 x2 x3 y0 y1 : Int32) (h : xH), W m_Scr_shiftOfRows (7, [some (.ref x0), some (.int x1), some (.int x2), some (.int x3)], [(.int y0), (.int y1)]) h = if y0 ≤ y1 then W m_Scr_shiftOfRows (30, [some (.ref x0), some (.int x1), some (.int x2), some (.int x3)], []) h else W m_Scr_shiftOfRows (10, [some (.ref x0), some (.int x1), some (.int x2), some (.int x3)], []) h) ∧
    (∀ (x0 : Nat) (x1 x2 x3 : Int32) (h : xH), W m_Scr_shiftOfRows (10, [some (.ref x0), some (.int x1), some (.int x2), some (.int x3)], []) h = xpush W m_Scr_shiftOfRows 16 [some (.ref x0), some (.int x1), some (.int x2), some (.int x3)] [(.int x3), (.ref x0)] h (xfld 4 4 (h.1 x0))) ∧
    (∀ (x0 y2 : Nat) (x1 x2 x3 y0 y1 : Int32) (h : xH), W m_Scr_shiftOfRows (16, [some (.ref x0), some (.int x1), some (.int x2), some (.int x3)], [(.int y0), (.int y1), (.ref y2)]) h = xret W m_Scr_shiftOfRows 18 21 [some (.ref x0), some (.int x1), some (.int x2), some (.int x3)] [] (xrc 4 (h.1 y2) (W m_Scr_isOfLattice (0, [some (.ref y2), some (.int y1), some (.int y0), some (.int x1), some (.int x2)], []) h))) ∧
    (∀ (x0 : Nat) (x1 x2 x3 y0 : Int32) (h : xH), W m_Scr_shiftOfRows (21, [some (.ref x0), some (.int x1), some (.int x2), some (.int x3)], [(.int y0)]) h = if y0 = (Int32.ofInt 0) then W m_Scr_shiftOfRows (24, [some (.ref x0), some (.int x1), some (.int x2), some (.int x3)], []) h else W m_Scr_shiftOfRows (30, [some (.ref x0), some (.int x1), some (.int x2), some (.int x3)], []) h) ∧
    (∀ (x0 : Nat) (x1 x2 x3 : Int32) (h : xH), W m_Scr_shiftOfRows (24, [some (.ref x0), some (.int x1), some (.int x2), some (.int x3)], []) h = W m_Scr_shiftOfRows (2, [some (.ref x0), some (.int x1), some (.int x2), some (.int (x3 + (Int32.ofInt 1)))], []) h) ∧
    (∀ (x0 : Nat) (x1 x2 x3 : Int32) (h : xH), W m_Scr_shiftOfRows (30, [some (.ref x0), some (.int x1), some (.int x2), some (.int x3)], []) h = some (.inl (some (.int x3)), h)) :=
  ⟨fun _ _ _ _ => (xW_k hW 2 _ _ _).trans rfl,
   fun _ _ _ _ _ _ _ => (xW_k hW 1 _ _ _).trans rfl,
   fun _ _ _ _ _ => (xW_k hW 4 _ _ _).trans xq_fld,
   fun _ _ _ _ _ _ _ _ => (xW_k hW 3 _ _ _).trans xq_rc,
   fun _ _ _ _ _ _ => (xW_k hW 1 _ _ _).trans rfl,
   fun _ _ _ _ _ => (xW_k hW 2 _ _ _).trans rfl,
   fun _ _ _ _ _ => (xW_k hW 2 _ _ _).trans rfl⟩
theorem L_Scr_shiftOfRows_2 (hW : ∀ M f h, W M f h = xbody V xF0 xG W M f h) :
    (∀ (x0 : Nat) (x1 x2 x3 : Int32) (h : xH), W m_Scr_shiftOfRows (2, [some (.ref x0), some (.int x1), some (.int x2), some (.int x3)], []) h = xpush W m_Scr_shiftOfRows 7 [some (.ref x0), some (.int x1), some (.int x2), some (.int x3)] [(.int x3)] h (xfld 4 3 (h.1 x0))) :=
  fun _ _ _ _ _ => (xW_k hW 3 _ _ _).trans xq_fld
theorem X_Scr_shiftOfRows : xhs m_Scr_shiftOfRows = [] := rfl
theorem E_Scr_isOfLattice (hW : ∀ M f h, W M f h = xbody V xF0 xG W M f h) :
    (∀ (x0 : Nat) (x1 x2 x3 x4 : Int32) (h : xH), W m_Scr_isOfLattice (0, [some (.ref x0), some (.int x1), some (.int x2), some (.int x3), some (.int x4)], []) h = xpush W m_Scr_isOfLattice 12 [some (.ref x0), some (.int x1), some (.int x2), some (.int x3), some (.int x4)] [(.int ((x3 * x1) + (x4 * x2)))] h (xfld 4 3 (h.1 x0))) ∧
    (∀ (x0 : Nat) (x1 x2 x3 x4 y0 y1 : Int32) (h : xH), W m_Scr_isOfLattice (12, [some (.ref x0), some (.int x1), some (.int x2), some (.int x3), some (.int x4)], [(.int y0), (.int y1)]) h = xpush W m_Scr_isOfLattice 13 [some (.ref x0), some (.int x1), some (.int x2), some (.int x3), some (.int x4)] [] h (xdv y0 (.int (y1 - y1 / y0 * y0)))) ∧
    (∀ (x0 : Nat) (x1 x2 x3 x4 y0 : Int32) (h : xH), W m_Scr_isOfLattice (13, [some (.ref x0), some (.int x1), some (.int x2), some (.int x3), some (.int x4)], [(.int y0)]) h = if y0 = (Int32.ofInt 0) then W m_Scr_isOfLattice (16, [some (.ref x0), some (.int x1), some (.int x2), some (.int x3), some (.int x4)], []) h else W m_Scr_isOfLattice (36, [some (.ref x0), some (.int x1), some (.int x2), some (.int x3), some (.int x4)], []) h) ∧
    (∀ (x0 : Nat) (x1 x2 x3 x4 : Int32) (h : xH), W m_Scr_isOfLattice (16, [some (.ref x0), some (.int x1), some (.int x2), some (.int x3), some (.int x4)], []) h = xpush W m_Scr_isOfLattice 28 [some (.ref x0), some (.int x1), some (.int x2), some (.int x3), some (.int x4)] [(.int ((x3 * x2) - (x4 * x1)))] h (xfld 4 3 (h.1 x0))) ∧
    (∀ (x0 : Nat) (x1 x2 x3 x4 y0 y1 : Int32) (h : xH), W m_Scr_isOfLattice (28, [some (.ref x0), some (.int x1), some (.int x2), some (.int x3), some (.int x4)], [(.int y0), (.int y1)]) h = xpush W m_Scr_isOfLattice 29 [some (.ref x0), some (.int x1), some (.int x2), some (.int x3), some (.int x4)] [] h (xdv y0 (.int (y1 - y1 / y0 * y0)))) ∧
    (∀ (x0 : Nat) (x1 x2 x3 x4 y0 : Int32) (h : xH), W m_Scr_isOfLattice (29, [some (.ref x0), some (.int x1), some (.int x2), some (.int x3), some (.int x4)], [(.int y0)]) h = if y0 = (Int32.ofInt 0) then W m_Scr_isOfLattice (32, [some (.ref x0), some (.int x1), some (.int x2), some (.int x3), some (.int x4)], []) h else W m_Scr_isOfLattice (36, [some (.ref x0), some (.int x1), some (.int x2), some (.int x3), some (.int x4)], []) h) ∧
    (∀ (x0 : Nat) (x1 x2 x3 x4 : Int32) (h : xH), W m_Scr_isOfLattice (32, [some (.ref x0), some (.int x1), some (.int x2), some (.int x3), some (.int x4)], []) h = some (.inl (some (.int (Int32.ofInt 1))), h)) ∧
    (∀ (x0 : Nat) (x1 x2 x3 x4 : Int32) (h : xH), W m_Scr_isOfLattice (36, [some (.ref x0), some (.int x1), some (.int x2), some (.int x3), some (.int x4)], []) h = some (.inl (some (.int (Int32.ofInt 0))), h)) :=
  ⟨fun _ _ _ _ _ _ => (xW_k hW 9 _ _ _).trans xq_fld,
   fun _ _ _ _ _ _ _ _ => (xW_k hW 1 _ _ _).trans xq_dv,
   fun _ _ _ _ _ _ _ => (xW_k hW 1 _ _ _).trans rfl,
   fun _ _ _ _ _ _ => (xW_k hW 9 _ _ _).trans xq_fld,
   fun _ _ _ _ _ _ _ _ => (xW_k hW 1 _ _ _).trans xq_dv,
   fun _ _ _ _ _ _ _ => (xW_k hW 1 _ _ _).trans rfl,
   fun _ _ _ _ _ _ => (xW_k hW 3 _ _ _).trans rfl,
   fun _ _ _ _ _ _ => (xW_k hW 2 _ _ _).trans rfl⟩
theorem X_Scr_isOfLattice : xhs m_Scr_isOfLattice = [] := rfl
theorem E_Pla_countWithin (hW : ∀ M f h, W M f h = xbody V xF0 xG W M f h) :
    (∀ (x0 : Nat) (x1 : Int32) (h : xH), W m_Pla_countWithin (0, [some (.ref x0), some (.int x1), none], []) h = W m_Pla_countWithin (2, [some (.ref x0), some (.int x1), some (.int (Int32.ofInt 0))], []) h) ∧
    (∀ (x0 : Nat) (x1 x2 y0 y1 : Int32) (h : xH), W m_Pla_countWithin (7, [some (.ref x0), some (.int x1), some (.int x2)], [(.int y0), (.int y1)]) h = if y0 ≤ y1 then W m_Pla_countWithin (29, [some (.ref x0), some (.int x1), some (.int x2)], []) h else W m_Pla_countWithin (10, [some (.ref x0), some (.int x1), some (.int x2)], []) h) ∧
    (∀ (x0 : Nat) (x1 x2 : Int32) (h : xH), W m_Pla_countWithin (10, [some (.ref x0), some (.int x1), some (.int x2)], []) h = xpush W m_Pla_countWithin 14 [some (.ref x0), some (.int x1), some (.int x2)] [] h (xfld 3 0 (h.1 x0))) ∧
    (∀ (x0 y0 : Nat) (x1 x2 : Int32) (h : xH), W m_Pla_countWithin (14, [some (.ref x0), some (.int x1), some (.int x2)], [(.ref y0)]) h = xpush W m_Pla_countWithin 16 [some (.ref x0), some (.int x1), some (.int x2)] [] h (xldI (h.1 y0) x2)) ∧
    (∀ (x0 : Nat) (x1 x2 y0 : Int32) (h : xH), W m_Pla_countWithin (16, [some (.ref x0), some (.int x1), some (.int x2)], [(.int y0)]) h = xret W m_Pla_countWithin 16 19 [some (.ref x0), some (.int x1), some (.int x2)] [] (W m_Pla_distanceOf (0, [some (.int y0)], []) h)) ∧
    (∀ (x0 : Nat) (x1 x2 y0 : Int32) (h : xH), W m_Pla_countWithin (19, [some (.ref x0), some (.int x1), some (.int x2)], [(.int y0)]) h = if x1 < y0 then W m_Pla_countWithin (29, [some (.ref x0), some (.int x1), some (.int x2)], []) h else W m_Pla_countWithin (23, [some (.ref x0), some (.int x1), some (.int x2)], []) h) ∧
    (∀ (x0 : Nat) (x1 x2 : Int32) (h : xH), W m_Pla_countWithin (23, [some (.ref x0), some (.int x1), some (.int x2)], []) h = W m_Pla_countWithin (2, [some (.ref x0), some (.int x1), some (.int (x2 + (Int32.ofInt 1)))], []) h) ∧
    (∀ (x0 : Nat) (x1 x2 : Int32) (h : xH), W m_Pla_countWithin (29, [some (.ref x0), some (.int x1), some (.int x2)], []) h = some (.inl (some (.int x2)), h)) :=
  ⟨fun _ _ _ => (xW_k hW 2 _ _ _).trans rfl,
   fun _ _ _ _ _ _ => (xW_k hW 1 _ _ _).trans rfl,
   fun _ _ _ _ => (xW_k hW 2 _ _ _).trans xq_fld,
   fun _ _ _ _ _ => (xW_k hW 2 _ _ _).trans xq_ldI,
   fun _ _ _ _ _ => (xW_k hW 1 _ _ _).trans rfl,
   fun _ _ _ _ _ => (xW_k hW 2 _ _ _).trans rfl,
   fun _ _ _ _ => (xW_k hW 2 _ _ _).trans rfl,
   fun _ _ _ _ => (xW_k hW 2 _ _ _).trans rfl⟩
theorem L_Pla_countWithin_2 (hW : ∀ M f h, W M f h = xbody V xF0 xG W M f h) :
    (∀ (x0 : Nat) (x1 x2 : Int32) (h : xH), W m_Pla_countWithin (2, [some (.ref x0), some (.int x1), some (.int x2)], []) h = xpush W m_Pla_countWithin 7 [some (.ref x0), some (.int x1), some (.int x2)] [(.int x2)] h (xfld 3 3 (h.1 x0))) :=
  fun _ _ _ _ => (xW_k hW 3 _ _ _).trans xq_fld
theorem X_Pla_countWithin : xhs m_Pla_countWithin = [] := rfl
theorem E_Pla_inOrder (hW : ∀ M f h, W M f h = xbody V xF0 xG W M f h) :
    (∀ (x0 : Nat) (x1 x2 x3 x4 : Int32) (h : xH), W m_Pla_inOrder (0, [some (.ref x0), some (.int x1), some (.int x2), some (.int x3), some (.int x4)], []) h = if x4 = (Int32.ofInt 0) then W m_Pla_inOrder (5, [some (.ref x0), some (.int x1), some (.int x2), some (.int x3), some (.int x4)], []) h else W m_Pla_inOrder (10, [some (.ref x0), some (.int x1), some (.int x2), some (.int x3), some (.int x4)], []) h) ∧
    (∀ (x0 : Nat) (x1 x2 x3 x4 : Int32) (h : xH), W m_Pla_inOrder (5, [some (.ref x0), some (.int x1), some (.int x2), some (.int x3), some (.int x4)], []) h = xpush W m_Pla_inOrder 9 [some (.ref x0), some (.int x1), some (.int x2), some (.int x3), some (.int x4)] [] h (xfld 3 0 (h.1 x0))) ∧
    (∀ (x0 y0 : Nat) (x1 x2 x3 x4 : Int32) (h : xH), W m_Pla_inOrder (9, [some (.ref x0), some (.int x1), some (.int x2), some (.int x3), some (.int x4)], [(.ref y0)]) h = some (.inl (some (.ref y0)), h)) ∧
    (∀ (x0 : Nat) (x1 x2 x3 x4 : Int32) (h : xH), W m_Pla_inOrder (10, [some (.ref x0), some (.int x1), some (.int x2), some (.int x3), some (.int x4)], []) h = xret W m_Pla_inOrder 16 19 [some (.ref x0), some (.int x1), some (.int x2), some (.int x3), some (.int x4)] [] (xrc 3 (h.1 x0) (W m_Pla_sortByForm (0, [some (.ref x0), some (.int x1), some (.int x2), some (.int x3), some (.int x4), none, none], []) h))) ∧
    (∀ (x0 : Nat) (x1 x2 x3 x4 : Int32) (h : xH), W m_Pla_inOrder (19, [some (.ref x0), some (.int x1), some (.int x2), some (.int x3), some (.int x4)], []) h = xpush W m_Pla_inOrder 23 [some (.ref x0), some (.int x1), some (.int x2), some (.int x3), some (.int x4)] [] h (xfld 3 1 (h.1 x0))) ∧
    (∀ (x0 y0 : Nat) (x1 x2 x3 x4 : Int32) (h : xH), W m_Pla_inOrder (23, [some (.ref x0), some (.int x1), some (.int x2), some (.int x3), some (.int x4)], [(.ref y0)]) h = some (.inl (some (.ref y0)), h)) :=
  ⟨fun _ _ _ _ _ _ => (xW_k hW 2 _ _ _).trans rfl,
   fun _ _ _ _ _ _ => (xW_k hW 2 _ _ _).trans xq_fld,
   fun _ _ _ _ _ _ _ => (xW_k hW 1 _ _ _).trans rfl,
   fun _ _ _ _ _ _ => (xW_k hW 6 _ _ _).trans xq_rc,
   fun _ _ _ _ _ _ => (xW_k hW 2 _ _ _).trans xq_fld,
   fun _ _ _ _ _ _ _ => (xW_k hW 1 _ _ _).trans rfl⟩
theorem X_Pla_inOrder : xhs m_Pla_inOrder = [] := rfl
theorem E_Scr_giveRanks (hW : ∀ M f h, W M f h = xbody V xF0 xG W M f h) :
    (∀ (x0 x1 : Nat) (x2 : Int32) (h : xH), W m_Scr_giveRanks (0, [some (.ref x0), some (.ref x1), some (.int x2), none, none, none], []) h = xpush W m_Scr_giveRanks 4 [some (.ref x0), some (.ref x1), some (.int x2), none, none, none] [] h (xfld 4 1 (h.1 x0))) ∧
    (∀ (x0 x1 y0 : Nat) (x2 : Int32) (h : xH), W m_Scr_giveRanks (4, [some (.ref x0), some (.ref x1), some (.int x2), none, none, none], [(.ref y0)]) h = xret W m_Scr_giveRanks 5 8 [some (.ref x0), some (.ref x1), some (.int x2), none, none, none] [] (W m_Arrays_fill (0, [some (.ref y0), some (.int (Int32.ofInt (-1))), none, none], []) h)) ∧
    (∀ (x0 x1 : Nat) (x2 : Int32) (h : xH), W m_Scr_giveRanks (8, [some (.ref x0), some (.ref x1), some (.int x2), none, none, none], []) h = W m_Scr_giveRanks (13, [some (.ref x0), some (.ref x1), some (.int x2), some (.int (Int32.ofInt 0)), some (.int (Int32.ofInt 0)), none], []) h) ∧
    (∀ (x0 x1 : Nat) (x2 x3 x4 : Int32) (x5 : Option Value) (h : xH), W m_Scr_giveRanks (19, [some (.ref x0), some (.ref x1), some (.int x2), some (.int x3), some (.int x4), x5], []) h = xpush W m_Scr_giveRanks 24 [some (.ref x0), some (.ref x1), some (.int x2), some (.int x3), some (.int x4), x5] [(.int x3)] h (xfld 4 3 (h.1 x0))) ∧
    (∀ (x0 x1 : Nat) (x2 x3 x4 y0 y1 : Int32) (x5 : Option Value) (h : xH), W m_Scr_giveRanks (24, [some (.ref x0), some (.ref x1), some (.int x2), some (.int x3), some (.int x4), x5], [(.int y0), (.int y1)]) h = if y0 ≤ y1 then W m_Scr_giveRanks (85, [some (.ref x0), some (.ref x1), some (.int x2), some (.int x3), some (.int x4), x5], []) h else W m_Scr_giveRanks (27, [some (.ref x0), some (.ref x1), some (.int x2), some (.int x3), some (.int x4), x5], []) h) ∧
    (∀ (x0 x1 : Nat) (x2 x3 x4 : Int32) (x5 : Option Value) (h : xH), W m_Scr_giveRanks (27, [some (.ref x0), some (.ref x1), some (.int x2), some (.int x3), some (.int x4), x5], []) h = xpush W m_Scr_giveRanks 32 [some (.ref x0), some (.ref x1), some (.int x2), some (.int x3), some (.int x4), x5] [(.ref x0)] h (xldI (h.1 x1) x4)) ∧
    (∀ (x0 x1 y1 : Nat) (x2 x3 x4 y0 : Int32) (x5 : Option Value) (h : xH), W m_Scr_giveRanks (32, [some (.ref x0), some (.ref x1), some (.int x2), some (.int x3), some (.int x4), x5], [(.int y0), (.ref y1)]) h = xret W m_Scr_giveRanks 32 35 [some (.ref x0), some (.ref x1), some (.int x2), some (.int x3), some (.int x4), x5] [(.ref y1)] (W m_Pla_xOf (0, [some (.int y0)], []) h)) ∧
    (∀ (x0 x1 y1 : Nat) (x2 x3 x4 y0 : Int32) (x5 : Option Value) (h : xH), W m_Scr_giveRanks (35, [some (.ref x0), some (.ref x1), some (.int x2), some (.int x3), some (.int x4), x5], [(.int y0), (.ref y1)]) h = xpush W m_Scr_giveRanks 39 [some (.ref x0), some (.ref x1), some (.int x2), some (.int x3), some (.int x4), x5] [(.int y0), (.ref y1)] h (xldI (h.1 x1) x4)) ∧
    (∀ (x0 x1 y2 : Nat) (x2 x3 x4 y0 y1 : Int32) (x5 : Option Value) (h : xH), W m_Scr_giveRanks (39, [some (.ref x0), some (.ref x1), some (.int x2), some (.int x3), some (.int x4), x5], [(.int y0), (.int y1), (.ref y2)]) h = xret W m_Scr_giveRanks 39 42 [some (.ref x0), some (.ref x1), some (.int x2), some (.int x3), some (.int x4), x5] [(.int y1), (.ref y2)] (W m_Pla_yOf (0, [some (.int y0)], []) h)) ∧
    (∀ (x0 x1 y2 : Nat) (x2 x3 x4 y0 y1 : Int32) (x5 : Option Value) (h : xH), W m_Scr_giveRanks (42, [some (.ref x0), some (.ref x1), some (.int x2), some (.int x3), some (.int x4), x5], [(.int y0), (.int y1), (.ref y2)]) h = xret W m_Scr_giveRanks 42 45 [some (.ref x0), some (.ref x1), some (.int x2), some (.int x3), some (.int x4), x5] [] (xrc 4 (h.1 y2) (W m_Scr_classAt (0, [some (.ref y2), some (.int y1), some (.int y0), none, none], []) h))) ∧
    (∀ (x0 x1 : Nat) (x2 x3 x4 y0 : Int32) (x5 : Option Value) (h : xH), W m_Scr_giveRanks (45, [some (.ref x0), some (.ref x1), some (.int x2), some (.int x3), some (.int x4), x5], [(.int y0)]) h = xpush W m_Scr_giveRanks 51 [some (.ref x0), some (.ref x1), some (.int x2), some (.int x3), some (.int x4), some (.int y0)] [] h (xfld 4 1 (h.1 x0))) ∧
    (∀ (x0 x1 y0 : Nat) (x2 x3 x4 x5 : Int32) (h : xH), W m_Scr_giveRanks (51, [some (.ref x0), some (.ref x1), some (.int x2), some (.int x3), some (.int x4), some (.int x5)], [(.ref y0)]) h = xpush W m_Scr_giveRanks 54 [some (.ref x0), some (.ref x1), some (.int x2), some (.int x3), some (.int x4), some (.int x5)] [] h (xldI (h.1 y0) x5)) ∧
    (∀ (x0 x1 : Nat) (x2 x3 x4 x5 y0 : Int32) (h : xH), W m_Scr_giveRanks (54, [some (.ref x0), some (.ref x1), some (.int x2), some (.int x3), some (.int x4), some (.int x5)], [(.int y0)]) h = if y0 = (Int32.ofInt (-1)) then W m_Scr_giveRanks (58, [some (.ref x0), some (.ref x1), some (.int x2), some (.int x3), some (.int x4), some (.int x5)], []) h else W m_Scr_giveRanks (79, [some (.ref x0), some (.ref x1), some (.int x2), some (.int x3), some (.int x4), some (.int x5)], []) h) ∧
    (∀ (x0 x1 : Nat) (x2 x3 x4 x5 : Int32) (h : xH), W m_Scr_giveRanks (58, [some (.ref x0), some (.ref x1), some (.int x2), some (.int x3), some (.int x4), some (.int x5)], []) h = xpush W m_Scr_giveRanks 62 [some (.ref x0), some (.ref x1), some (.int x2), some (.int x3), some (.int x4), some (.int x5)] [] h (xfld 4 1 (h.1 x0))) ∧
    (∀ (x0 x1 y0 : Nat) (x2 x3 x4 x5 : Int32) (h : xH), W m_Scr_giveRanks (62, [some (.ref x0), some (.ref x1), some (.int x2), some (.int x3), some (.int x4), some (.int x5)], [(.ref y0)]) h = xthn W m_Scr_giveRanks 66 [some (.ref x0), some (.ref x1), some (.int x2), some (.int x3), some (.int x4), some (.int x5)] [] (xstI (h.1 y0) h y0 x5 x3)) ∧
    (∀ (x0 x1 : Nat) (x2 x3 x4 x5 : Int32) (h : xH), W m_Scr_giveRanks (66, [some (.ref x0), some (.ref x1), some (.int x2), some (.int x3), some (.int x4), some (.int x5)], []) h = xpush W m_Scr_giveRanks 70 [some (.ref x0), some (.ref x1), some (.int x2), some (.int x3), some (.int x4), some (.int x5)] [] h (xfld 4 2 (h.1 x0))) ∧
    (∀ (x0 x1 y0 : Nat) (x2 x3 x4 x5 : Int32) (h : xH), W m_Scr_giveRanks (70, [some (.ref x0), some (.ref x1), some (.int x2), some (.int x3), some (.int x4), some (.int x5)], [(.ref y0)]) h = xpush W m_Scr_giveRanks 75 [some (.ref x0), some (.ref x1), some (.int x2), some (.int x3), some (.int x4), some (.int x5)] [(.int x3), (.ref y0)] h (xldI (h.1 x1) x4)) ∧
    (∀ (x0 x1 y2 : Nat) (x2 x3 x4 x5 y0 y1 : Int32) (h : xH), W m_Scr_giveRanks (75, [some (.ref x0), some (.ref x1), some (.int x2), some (.int x3), some (.int x4), some (.int x5)], [(.int y0), (.int y1), (.ref y2)]) h = xthn W m_Scr_giveRanks 76 [some (.ref x0), some (.ref x1), some (.int x2), some (.int x3), some (.int x4), some (.int x5)] [] (xstI (h.1 y2) h y2 y1 y0)) ∧
    (∀ (x0 x1 : Nat) (x2 x3 x4 x5 : Int32) (h : xH), W m_Scr_giveRanks (76, [some (.ref x0), some (.ref x1), some (.int x2), some (.int x3), some (.int x4), some (.int x5)], []) h = W m_Scr_giveRanks (13, [some (.ref x0), some (.ref x1), some (.int x2), some (.int (x3 + (Int32.ofInt 1))), some (.int (x4 + (Int32.ofInt 1))), some (.int x5)], []) h) ∧
    (∀ (x0 x1 : Nat) (x2 x3 x4 x5 : Int32) (h : xH), W m_Scr_giveRanks (79, [some (.ref x0), some (.ref x1), some (.int x2), some (.int x3), some (.int x4), some (.int x5)], []) h = W m_Scr_giveRanks (13, [some (.ref x0), some (.ref x1), some (.int x2), some (.int x3), some (.int (x4 + (Int32.ofInt 1))), some (.int x5)], []) h) ∧
    (∀ (x0 x1 : Nat) (x2 x3 x4 : Int32) (x5 : Option Value) (h : xH), W m_Scr_giveRanks (85, [some (.ref x0), some (.ref x1), some (.int x2), some (.int x3), some (.int x4), x5], []) h = some (.inl none, h)) :=
  ⟨fun _ _ _ _ => (xW_k hW 2 _ _ _).trans xq_fld,
   fun _ _ _ _ _ => (xW_k hW 2 _ _ _).trans rfl,
   fun _ _ _ _ => (xW_k hW 4 _ _ _).trans rfl,
   fun _ _ _ _ _ _ _ => (xW_k hW 3 _ _ _).trans xq_fld,
   fun _ _ _ _ _ _ _ _ _ => (xW_k hW 1 _ _ _).trans rfl,
   fun _ _ _ _ _ _ _ => (xW_k hW 4 _ _ _).trans xq_ldI,
   fun _ _ _ _ _ _ _ _ _ => (xW_k hW 1 _ _ _).trans rfl,
   fun _ _ _ _ _ _ _ _ _ => (xW_k hW 3 _ _ _).trans xq_ldI,
   fun _ _ _ _ _ _ _ _ _ _ => (xW_k hW 1 _ _ _).trans rfl,
   fun _ _ _ _ _ _ _ _ _ _ => (xW_k hW 1 _ _ _).trans xq_rc,
   fun _ _ _ _ _ _ _ _ => (xW_k hW 3 _ _ _).trans xq_fld,
   fun _ _ _ _ _ _ _ _ => (xW_k hW 2 _ _ _).trans xq_ldI,
   fun _ _ _ _ _ _ _ _ => (xW_k hW 2 _ _ _).trans rfl,
   fun _ _ _ _ _ _ _ => (xW_k hW 2 _ _ _).trans xq_fld,
   fun _ _ _ _ _ _ _ _ => (xW_k hW 3 _ _ _).trans xq_stI,
   fun _ _ _ _ _ _ _ => (xW_k hW 2 _ _ _).trans xq_fld,
   fun _ _ _ _ _ _ _ _ => (xW_k hW 4 _ _ _).trans xq_ldI,
   fun _ _ _ _ _ _ _ _ _ _ => (xW_k hW 1 _ _ _).trans xq_stI,
   fun _ _ _ _ _ _ _ => (xW_k hW 3 _ _ _).trans rfl,
   fun _ _ _ _ _ _ _ => (xW_k hW 2 _ _ _).trans rfl,
   fun _ _ _ _ _ _ _ => (xW_k hW 1 _ _ _).trans rfl⟩
theorem L_Scr_giveRanks_13 (hW : ∀ M f h, W M f h = xbody V xF0 xG W M f h) :
    (∀ (x0 x1 : Nat) (x2 x3 x4 : Int32) (x5 : Option Value) (h : xH), W m_Scr_giveRanks (13, [some (.ref x0), some (.ref x1), some (.int x2), some (.int x3), some (.int x4), x5], []) h = if x2 ≤ x4 then W m_Scr_giveRanks (85, [some (.ref x0), some (.ref x1), some (.int x2), some (.int x3), some (.int x4), x5], []) h else W m_Scr_giveRanks (19, [some (.ref x0), some (.ref x1), some (.int x2), some (.int x3), some (.int x4), x5], []) h) :=
  fun _ _ _ _ _ _ _ => (xW_k hW 3 _ _ _).trans rfl
theorem X_Scr_giveRanks : xhs m_Scr_giveRanks = [] := rfl
theorem E_Scr_classAt (hW : ∀ M f h, W M f h = xbody V xF0 xG W M f h) :
    (∀ (x0 : Nat) (x1 x2 : Int32) (h : xH), W m_Scr_classAt (0, [some (.ref x0), some (.int x1), some (.int x2), none, none], []) h = xpush W m_Scr_classAt 4 [some (.ref x0), some (.int x1), some (.int x2), none, none] [] h (xfld 4 3 (h.1 x0))) ∧
    (∀ (x0 : Nat) (x1 x2 y0 : Int32) (h : xH), W m_Scr_classAt (4, [some (.ref x0), some (.int x1), some (.int x2), none, none], [(.int y0)]) h = xpush W m_Scr_classAt 8 [some (.ref x0), some (.int x1), some (.int x2), none, none] [(.int y0)] h (xfld 4 4 (h.1 x0))) ∧
    (∀ (x0 : Nat) (x1 x2 y0 y1 : Int32) (h : xH), W m_Scr_classAt (8, [some (.ref x0), some (.int x1), some (.int x2), none, none], [(.int y0), (.int y1)]) h = xpush W m_Scr_classAt 9 [some (.ref x0), some (.int x1), some (.int x2), none, none] [] h (xdv y0 (.int (y1 / y0)))) ∧
    (∀ (x0 : Nat) (x1 x2 y0 : Int32) (h : xH), W m_Scr_classAt (9, [some (.ref x0), some (.int x1), some (.int x2), none, none], [(.int y0)]) h = xpush W m_Scr_classAt 15 [some (.ref x0), some (.int x1), some (.int x2), some (.int y0), none] [(.int x2)] h (xfld 4 4 (h.1 x0))) ∧
    (∀ (x0 : Nat) (x1 x2 x3 y0 y1 : Int32) (h : xH), W m_Scr_classAt (15, [some (.ref x0), some (.int x1), some (.int x2), some (.int x3), none], [(.int y0), (.int y1)]) h = xret W m_Scr_classAt 15 18 [some (.ref x0), some (.int x1), some (.int x2), some (.int x3), none] [] (W m_Math_floorDiv (0, [some (.int y1), some (.int y0), none], []) h)) ∧
    (∀ (x0 : Nat) (x1 x2 x3 y0 : Int32) (h : xH), W m_Scr_classAt (18, [some (.ref x0), some (.int x1), some (.int x2), some (.int x3), none], [(.int y0)]) h = xpush W m_Scr_classAt 27 [some (.ref x0), some (.int x1), some (.int x2), some (.int x3), some (.int y0)] [(.int y0), (.int x2)] h (xfld 4 4 (h.1 x0))) ∧
    (∀ (x0 : Nat) (x1 x2 x3 x4 y0 y1 y2 : Int32) (h : xH), W m_Scr_classAt (27, [some (.ref x0), some (.int x1), some (.int x2), some (.int x3), some (.int x4)], [(.int y0), (.int y1), (.int y2)]) h = xpush W m_Scr_classAt 38 [some (.ref x0), some (.int x1), some (.int x2), some (.int x3), some (.int x4)] [(.int x4), (.int x1), (.int ((y2 - (y1 * y0)) * x3))] h (xfld 4 5 (h.1 x0))) ∧
    (∀ (x0 : Nat) (x1 x2 x3 x4 y0 y1 y2 y3 : Int32) (h : xH), W m_Scr_classAt (38, [some (.ref x0), some (.int x1), some (.int x2), some (.int x3), some (.int x4)], [(.int y0), (.int y1), (.int y2), (.int y3)]) h = xret W m_Scr_classAt 41 44 [some (.ref x0), some (.int x1), some (.int x2), some (.int x3), some (.int x4)] [(.int y3)] (W m_Math_floorMod (0, [some (.int (y2 - (y1 * y0))), some (.int x3), none], []) h)) ∧
    (∀ (x0 : Nat) (x1 x2 x3 x4 y0 y1 : Int32) (h : xH), W m_Scr_classAt (44, [some (.ref x0), some (.int x1), some (.int x2), some (.int x3), some (.int x4)], [(.int y0), (.int y1)]) h = some (.inl (some (.int (y1 + y0))), h)) :=
  ⟨fun _ _ _ _ => (xW_k hW 2 _ _ _).trans xq_fld,
   fun _ _ _ _ _ => (xW_k hW 2 _ _ _).trans xq_fld,
   fun _ _ _ _ _ _ => (xW_k hW 1 _ _ _).trans xq_dv,
   fun _ _ _ _ _ => (xW_k hW 4 _ _ _).trans xq_fld,
   fun _ _ _ _ _ _ _ => (xW_k hW 1 _ _ _).trans rfl,
   fun _ _ _ _ _ _ => (xW_k hW 5 _ _ _).trans xq_fld,
   fun _ _ _ _ _ _ _ _ _ => (xW_k hW 8 _ _ _).trans xq_fld,
   fun _ _ _ _ _ _ _ _ _ _ => (xW_k hW 4 _ _ _).trans rfl,
   fun _ _ _ _ _ _ _ _ => (xW_k hW 2 _ _ _).trans rfl⟩
theorem X_Scr_classAt : xhs m_Scr_classAt = [] := rfl
theorem E_Math_floorDiv (hW : ∀ M f h, W M f h = xbody V xF0 xG W M f h) :
    (∀ (x0 x1 : Int32) (h : xH), W m_Math_floorDiv (0, [some (.int x0), some (.int x1), none], []) h = xpush W m_Math_floorDiv 3 [some (.int x0), some (.int x1), none] [] h (xdv x1 (.int (x0 / x1)))) ∧
    (∀ (x0 x1 y0 : Int32) (h : xH), W m_Math_floorDiv (3, [some (.int x0), some (.int x1), none], [(.int y0)]) h = if (Int32.ofInt 0) ≤ (x0 ^^^ x1) then W m_Math_floorDiv (21, [some (.int x0), some (.int x1), some (.int y0)], []) h else W m_Math_floorDiv (10, [some (.int x0), some (.int x1), some (.int y0)], []) h) ∧
    (∀ (x0 x1 x2 : Int32) (h : xH), W m_Math_floorDiv (10, [some (.int x0), some (.int x1), some (.int x2)], []) h = if (x2 * x1) = x0 then W m_Math_floorDiv (21, [some (.int x0), some (.int x1), some (.int x2)], []) h else W m_Math_floorDiv (17, [some (.int x0), some (.int x1), some (.int x2)], []) h) ∧
    (∀ (x0 x1 x2 : Int32) (h : xH), W m_Math_floorDiv (17, [some (.int x0), some (.int x1), some (.int x2)], []) h = some (.inl (some (.int (x2 - (Int32.ofInt 1)))), h)) ∧
    (∀ (x0 x1 x2 : Int32) (h : xH), W m_Math_floorDiv (21, [some (.int x0), some (.int x1), some (.int x2)], []) h = some (.inl (some (.int x2)), h)) :=
  ⟨fun _ _ _ => (xW_k hW 3 _ _ _).trans xq_dv,
   fun _ _ _ _ => (xW_k hW 5 _ _ _).trans rfl,
   fun _ _ _ _ => (xW_k hW 5 _ _ _).trans rfl,
   fun _ _ _ _ => (xW_k hW 4 _ _ _).trans rfl,
   fun _ _ _ _ => (xW_k hW 2 _ _ _).trans rfl⟩
theorem X_Math_floorDiv : xhs m_Math_floorDiv = [] := rfl
theorem E_Math_floorMod (hW : ∀ M f h, W M f h = xbody V xF0 xG W M f h) :
    (∀ (x0 x1 : Int32) (h : xH), W m_Math_floorMod (0, [some (.int x0), some (.int x1), none], []) h = xpush W m_Math_floorMod 3 [some (.int x0), some (.int x1), none] [] h (xdv x1 (.int (x0 - x0 / x1 * x1)))) ∧
    (∀ (x0 x1 y0 : Int32) (h : xH), W m_Math_floorMod (3, [some (.int x0), some (.int x1), none], [(.int y0)]) h = if (Int32.ofInt 0) ≤ (x0 ^^^ x1) then W m_Math_floorMod (18, [some (.int x0), some (.int x1), some (.int y0)], []) h else W m_Math_floorMod (10, [some (.int x0), some (.int x1), some (.int y0)], []) h) ∧
    (∀ (x0 x1 x2 : Int32) (h : xH), W m_Math_floorMod (10, [some (.int x0), some (.int x1), some (.int x2)], []) h = if x2 = (Int32.ofInt 0) then W m_Math_floorMod (18, [some (.int x0), some (.int x1), some (.int x2)], []) h else W m_Math_floorMod (14, [some (.int x0), some (.int x1), some (.int x2)], []) h) ∧
    (∀ (x0 x1 x2 : Int32) (h : xH), W m_Math_floorMod (14, [some (.int x0), some (.int x1), some (.int x2)], []) h = some (.inl (some (.int (x2 + x1))), h)) ∧
    (∀ (x0 x1 x2 : Int32) (h : xH), W m_Math_floorMod (18, [some (.int x0), some (.int x1), some (.int x2)], []) h = some (.inl (some (.int x2)), h)) :=
  ⟨fun _ _ _ => (xW_k hW 3 _ _ _).trans xq_dv,
   fun _ _ _ _ => (xW_k hW 5 _ _ _).trans rfl,
   fun _ _ _ _ => (xW_k hW 2 _ _ _).trans rfl,
   fun _ _ _ _ => (xW_k hW 4 _ _ _).trans rfl,
   fun _ _ _ _ => (xW_k hW 2 _ _ _).trans rfl⟩
theorem X_Math_floorMod : xhs m_Math_floorMod = [] := rfl
theorem E_She_init (hW : ∀ M f h, W M f h = xbody V xF0 xG W M f h) :
    (∀ (x0 : Nat) (h : xH), W m_She_init (0, [some (.ref x0), none], []) h = xmk W m_She_init 10 [some (.ref x0), none] [(.ref x0)] h 11 (Int32.ofInt 16)) ∧
    (∀ (x0 y0 y1 : Nat) (h : xH), W m_She_init (10, [some (.ref x0), none], [(.ref y0), (.ref y1)]) h = xthn W m_She_init 13 [some (.ref x0), none] [] (xptf (h.1 y1) h y1 5 0 2 (.ref y0))) ∧
    (∀ (x0 : Nat) (h : xH), W m_She_init (13, [some (.ref x0), none], []) h = W m_She_init (15, [some (.ref x0), some (.int (Int32.ofInt 0))], []) h) ∧
    (∀ (x0 : Nat) (x1 : Int32) (h : xH), W m_She_init (21, [some (.ref x0), some (.int x1)], []) h = xpush W m_She_init 25 [some (.ref x0), some (.int x1)] [] h (xfld 5 0 (h.1 x0))) ∧
    (∀ (x0 y0 : Nat) (x1 : Int32) (h : xH), W m_She_init (25, [some (.ref x0), some (.int x1)], [(.ref y0)]) h = W m_She_init (29, [some (.ref x0), some (.int x1)], [(.ref h.2.1), (.int x1), (.ref y0)]) (xnew h (xO' 6 (xF0 6)) 5)) ∧
    (∀ (x0 y0 y2 : Nat) (x1 y1 : Int32) (h : xH), W m_She_init (29, [some (.ref x0), some (.int x1)], [(.ref y0), (.int y1), (.ref y2)]) h = xret W m_She_init 30 33 [some (.ref x0), some (.int x1)] [(.ref y0), (.int y1), (.ref y2)] (W m_Leaf_init (0, [some (.ref y0)], []) h)) ∧
    (∀ (x0 y0 y2 : Nat) (x1 y1 : Int32) (h : xH), W m_She_init (33, [some (.ref x0), some (.int x1)], [(.ref y0), (.int y1), (.ref y2)]) h = xthn W m_She_init 34 [some (.ref x0), some (.int x1)] [] (xstR (h.1 y2) (h.1 y0) h y2 y1 y0)) ∧
    (∀ (x0 : Nat) (x1 : Int32) (h : xH), W m_She_init (34, [some (.ref x0), some (.int x1)], []) h = W m_She_init (15, [some (.ref x0), some (.int (x1 + (Int32.ofInt 1)))], []) h) ∧
    (∀ (x0 : Nat) (x1 : Int32) (h : xH), W m_She_init (40, [some (.ref x0), some (.int x1)], []) h = xmk W m_She_init 45 [some (.ref x0), some (.int x1)] [(.ref x0)] h 0 (Int32.ofInt 16)) ∧
    (∀ (x0 y0 y1 : Nat) (x1 : Int32) (h : xH), W m_She_init (45, [some (.ref x0), some (.int x1)], [(.ref y0), (.ref y1)]) h = xthn W m_She_init 48 [some (.ref x0), some (.int x1)] [] (xptf (h.1 y1) h y1 5 1 2 (.ref y0))) ∧
    (∀ (x0 : Nat) (x1 : Int32) (h : xH), W m_She_init (48, [some (.ref x0), some (.int x1)], []) h = some (.inl none, h)) :=
  ⟨fun _ _ => (xW_k hW 5 _ _ _).trans rfl,
   fun _ _ _ _ => (xW_k hW 1 _ _ _).trans xq_ptf,
   fun _ _ => (xW_k hW 2 _ _ _).trans rfl,
   fun _ _ _ => (xW_k hW 2 _ _ _).trans xq_fld,
   fun _ _ _ _ => (xW_k hW 2 _ _ _).trans rfl,
   fun _ _ _ _ _ _ => (xW_k hW 2 _ _ _).trans rfl,
   fun _ _ _ _ _ _ => (xW_k hW 1 _ _ _).trans xq_stR,
   fun _ _ _ => (xW_k hW 2 _ _ _).trans rfl,
   fun _ _ _ => (xW_k hW 3 _ _ _).trans rfl,
   fun _ _ _ _ _ => (xW_k hW 1 _ _ _).trans xq_ptf,
   fun _ _ _ => (xW_k hW 1 _ _ _).trans rfl⟩
theorem L_She_init_15 (hW : ∀ M f h, W M f h = xbody V xF0 xG W M f h) :
    (∀ (x0 : Nat) (x1 : Int32) (h : xH), W m_She_init (15, [some (.ref x0), some (.int x1)], []) h = if (Int32.ofInt 16) ≤ x1 then W m_She_init (40, [some (.ref x0), some (.int x1)], []) h else W m_She_init (21, [some (.ref x0), some (.int x1)], []) h) :=
  fun _ _ _ => (xW_k hW 3 _ _ _).trans rfl
theorem X_She_init : xhs m_She_init = [] := rfl
theorem E_Leaf_init (hW : ∀ M f h, W M f h = xbody V xF0 xG W M f h) :
    (∀ (x0 : Nat) (h : xH), W m_Leaf_init (0, [some (.ref x0)], []) h = some (.inl none, h)) :=
  fun _ _ => (xW_k hW 3 _ _ _).trans rfl
theorem X_Leaf_init : xhs m_Leaf_init = [] := rfl
end XEQ
