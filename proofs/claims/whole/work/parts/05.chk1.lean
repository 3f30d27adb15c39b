theorem h_Job_colourAt : xmok xWL xcl m_Job_colourAt [551, 44] = true := by decide +kernel
set_option maxRecDepth 100000 in
theorem k_Job_colourAt : (t_Job_colourAt.all fun c => c.2.all fun q => xok xWL xHL xcl xSL xNM xty0 xsf "PrePressRoom" xnG xG m_Job_colourAt q.1 q.2) = true := by decide +kernel
theorem h_Spr_widenAcross : xmok xWL xcl m_Spr_widenAcross [555, 45] = true := by decide +kernel
set_option maxRecDepth 100000 in
theorem k_Spr_widenAcross : (t_Spr_widenAcross.all fun c => c.2.all fun q => xok xWL xHL xcl xSL xNM xty0 xsf "PrePressRoom" xnG xG m_Spr_widenAcross q.1 q.2) = true := by decide +kernel
theorem h_Spr_widenDown : xmok xWL xcl m_Spr_widenDown [559, 45] = true := by decide +kernel
set_option maxRecDepth 100000 in
theorem k_Spr_widenDown : (t_Spr_widenDown.all fun c => c.2.all fun q => xok xWL xHL xcl xSL xNM xty0 xsf "PrePressRoom" xnG xG m_Spr_widenDown q.1 q.2) = true := by decide +kernel
theorem h_Spr_markReached : xmok xWL xcl m_Spr_markReached [563, 45] = true := by decide +kernel
set_option maxRecDepth 100000 in
theorem k_Spr_markReached : (t_Spr_markReached.all fun c => c.2.all fun q => xok xWL xHL xcl xSL xNM xty0 xsf "PrePressRoom" xnG xG m_Spr_markReached q.1 q.2) = true := by decide +kernel
theorem h_Job_lighterAt : xmok xWL xcl m_Job_lighterAt [567, 44] = true := by decide +kernel
set_option maxRecDepth 100000 in
theorem k_Job_lighterAt : (t_Job_lighterAt.all fun c => c.2.all fun q => xok xWL xHL xcl xSL xNM xty0 xsf "PrePressRoom" xnG xG m_Job_lighterAt q.1 q.2) = true := by decide +kernel
theorem h_Long_numberOfTrailingZeros : xmok xWL xcl m_Long_numberOfTrailingZeros [570, 60] = true := by decide +kernel
set_option maxRecDepth 100000 in
theorem k_Long_numberOfTrailingZeros : (t_Long_numberOfTrailingZeros.all fun c => c.2.all fun q => xok xWL xHL xcl xSL xNM xty0 xsf "PrePressRoom" xnG xG m_Long_numberOfTrailingZeros q.1 q.2) = true := by decide +kernel
theorem h_Integer_numberOfTrailingZeros : xmok xWL xcl m_Integer_numberOfTrailingZeros [573, 61] = true := by decide +kernel
set_option maxRecDepth 100000 in
theorem k_Integer_numberOfTrailingZeros : (t_Integer_numberOfTrailingZeros.all fun c => c.2.all fun q => xok xWL xHL xcl xSL xNM xty0 xsf "PrePressRoom" xnG xG m_Integer_numberOfTrailingZeros q.1 q.2) = true := by decide +kernel
theorem h_Job_setLighter : xmok xWL xcl m_Job_setLighter [578, 44] = true := by decide +kernel
set_option maxRecDepth 100000 in
theorem k_Job_setLighter : (t_Job_setLighter.all fun c => c.2.all fun q => xok xWL xHL xcl xSL xNM xty0 xsf "PrePressRoom" xnG xG m_Job_setLighter q.1 q.2) = true := by decide +kernel
theorem h_Job_setSpread : xmok xWL xcl m_Job_setSpread [582, 44] = true := by decide +kernel
set_option maxRecDepth 100000 in
theorem k_Job_setSpread : (t_Job_setSpread.all fun c => c.2.all fun q => xok xWL xHL xcl xSL xNM xty0 xsf "PrePressRoom" xnG xG m_Job_setSpread q.1 q.2) = true := by decide +kernel
theorem h_Law_trapped : xmok xWL xcl m_Law_trapped [585, 42] = true := by decide +kernel
set_option maxRecDepth 100000 in
theorem k_Law_trapped : (t_Law_trapped.all fun c => c.2.all fun q => xok xWL xHL xcl xSL xNM xty0 xsf "PrePressRoom" xnG xG m_Law_trapped q.1 q.2) = true := by decide +kernel
theorem h_Room_trapped : xmok xWL xcl m_Room_trapped [589, 43] = true := by decide +kernel
set_option maxRecDepth 100000 in
theorem k_Room_trapped : (t_Room_trapped.all fun c => c.2.all fun q => xok xWL xHL xcl xSL xNM xty0 xsf "PrePressRoom" xnG xG m_Room_trapped q.1 q.2) = true := by decide +kernel
theorem h_Job_markAt : xmok xWL xcl m_Job_markAt [593, 44] = true := by decide +kernel
set_option maxRecDepth 100000 in
theorem k_Job_markAt : (t_Job_markAt.all fun c => c.2.all fun q => xok xWL xHL xcl xSL xNM xty0 xsf "PrePressRoom" xnG xG m_Job_markAt q.1 q.2) = true := by decide +kernel
theorem h_Law_screen : xmok xWL xcl m_Law_screen [596, 42] = true := by decide +kernel
set_option maxRecDepth 100000 in
theorem k_Law_screen : (t_Law_screen.all fun c => c.2.all fun q => xok xWL xHL xcl xSL xNM xty0 xsf "PrePressRoom" xnG xG m_Law_screen q.1 q.2) = true := by decide +kernel
theorem h_Room_screen : xmok xWL xcl m_Room_screen [600, 43] = true := by decide +kernel
set_option maxRecDepth 100000 in
theorem k_Room_screen : (t_Room_screen.all fun c => c.2.all fun q => xok xWL xHL xcl xSL xNM xty0 xsf "PrePressRoom" xnG xG m_Room_screen q.1 q.2) = true := by decide +kernel
theorem h_Scr_classCount : xmok xWL xcl m_Scr_classCount [605, 50] = true := by decide +kernel
set_option maxRecDepth 100000 in
theorem k_Scr_classCount : (t_Scr_classCount.all fun c => c.2.all fun q => xok xWL xHL xcl xSL xNM xty0 xsf "PrePressRoom" xnG xG m_Scr_classCount q.1 q.2) = true := by decide +kernel
theorem h_Law_rank : xmok xWL xcl m_Law_rank [608, 42] = true := by decide +kernel
set_option maxRecDepth 100000 in
theorem k_Law_rank : (t_Law_rank.all fun c => c.2.all fun q => xok xWL xHL xcl xSL xNM xty0 xsf "PrePressRoom" xnG xG m_Law_rank q.1 q.2) = true := by decide +kernel
theorem h_Room_rank : xmok xWL xcl m_Room_rank [612, 43] = true := by decide +kernel
set_option maxRecDepth 100000 in
theorem k_Room_rank : (t_Room_rank.all fun c => c.2.all fun q => xok xWL xHL xcl xSL xNM xty0 xsf "PrePressRoom" xnG xG m_Room_rank q.1 q.2) = true := by decide +kernel
theorem h_Scr_rankAt : xmok xWL xcl m_Scr_rankAt [616, 50] = true := by decide +kernel
set_option maxRecDepth 100000 in
theorem k_Scr_rankAt : (t_Scr_rankAt.all fun c => c.2.all fun q => xok xWL xHL xcl xSL xNM xty0 xsf "PrePressRoom" xnG xG m_Scr_rankAt q.1 q.2) = true := by decide +kernel
theorem h_Law_dot : xmok xWL xcl m_Law_dot [619, 42] = true := by decide +kernel
set_option maxRecDepth 100000 in
theorem k_Law_dot : (t_Law_dot.all fun c => c.2.all fun q => xok xWL xHL xcl xSL xNM xty0 xsf "PrePressRoom" xnG xG m_Law_dot q.1 q.2) = true := by decide +kernel
theorem h_Room_dot : xmok xWL xcl m_Room_dot [623, 43] = true := by decide +kernel
set_option maxRecDepth 100000 in
theorem k_Room_dot : (t_Room_dot.all fun c => c.2.all fun q => xok xWL xHL xcl xSL xNM xty0 xsf "PrePressRoom" xnG xG m_Room_dot q.1 q.2) = true := by decide +kernel
theorem h_Room_isPrinted : xmok xWL xcl m_Room_isPrinted [627, 43] = true := by decide +kernel
set_option maxRecDepth 100000 in
theorem k_Room_isPrinted : (t_Room_isPrinted.all fun c => c.2.all fun q => xok xWL xHL xcl xSL xNM xty0 xsf "PrePressRoom" xnG xG m_Room_isPrinted q.1 q.2) = true := by decide +kernel
theorem h_Scr_prints : xmok xWL xcl m_Scr_prints [631, 50] = true := by decide +kernel
set_option maxRecDepth 100000 in
theorem k_Scr_prints : (t_Scr_prints.all fun c => c.2.all fun q => xok xWL xHL xcl xSL xNM xty0 xsf "PrePressRoom" xnG xG m_Scr_prints q.1 q.2) = true := by decide +kernel
theorem h_Law_share : xmok xWL xcl m_Law_share [634, 42] = true := by decide +kernel
set_option maxRecDepth 100000 in
theorem k_Law_share : (t_Law_share.all fun c => c.2.all fun q => xok xWL xHL xcl xSL xNM xty0 xsf "PrePressRoom" xnG xG m_Law_share q.1 q.2) = true := by decide +kernel
theorem h_Room_share : xmok xWL xcl m_Room_share [638, 43] = true := by decide +kernel
set_option maxRecDepth 100000 in
theorem k_Room_share : (t_Room_share.all fun c => c.2.all fun q => xok xWL xHL xcl xSL xNM xty0 xsf "PrePressRoom" xnG xG m_Room_share q.1 q.2) = true := by decide +kernel
theorem h_Scr_heartX : xmok xWL xcl m_Scr_heartX [642, 50] = true := by decide +kernel
set_option maxRecDepth 100000 in
theorem k_Scr_heartX : (t_Scr_heartX.all fun c => c.2.all fun q => xok xWL xHL xcl xSL xNM xty0 xsf "PrePressRoom" xnG xG m_Scr_heartX q.1 q.2) = true := by decide +kernel
theorem h_Scr_heartY : xmok xWL xcl m_Scr_heartY [646, 50] = true := by decide +kernel
set_option maxRecDepth 100000 in
theorem k_Scr_heartY : (t_Scr_heartY.all fun c => c.2.all fun q => xok xWL xHL xcl xSL xNM xty0 xsf "PrePressRoom" xnG xG m_Scr_heartY q.1 q.2) = true := by decide +kernel
theorem h_Room_isOnPage : xmok xWL xcl m_Room_isOnPage [649, 43] = true := by decide +kernel
set_option maxRecDepth 100000 in
theorem k_Room_isOnPage : (t_Room_isOnPage.all fun c => c.2.all fun q => xok xWL xHL xcl xSL xNM xty0 xsf "PrePressRoom" xnG xG m_Room_isOnPage q.1 q.2) = true := by decide +kernel
theorem h_Law_proof : xmok xWL xcl m_Law_proof [652, 42] = true := by decide +kernel
set_option maxRecDepth 100000 in
theorem k_Law_proof : (t_Law_proof.all fun c => c.2.all fun q => xok xWL xHL xcl xSL xNM xty0 xsf "PrePressRoom" xnG xG m_Law_proof q.1 q.2) = true := by decide +kernel
theorem h_Room_proof : xmok xWL xcl m_Room_proof [656, 43] = true := by decide +kernel
set_option maxRecDepth 100000 in
theorem k_Room_proof : (t_Room_proof.all fun c => c.2.all fun q => xok xWL xHL xcl xSL xNM xty0 xsf "PrePressRoom" xnG xG m_Room_proof q.1 q.2) = true := by decide +kernel
theorem h_Law_impose : xmok xWL xcl m_Law_impose [659, 42] = true := by decide +kernel
set_option maxRecDepth 100000 in
theorem k_Law_impose : (t_Law_impose.all fun c => c.2.all fun q => xok xWL xHL xcl xSL xNM xty0 xsf "PrePressRoom" xnG xG m_Law_impose q.1 q.2) = true := by decide +kernel
theorem h_Room_impose : xmok xWL xcl m_Room_impose [663, 43] = true := by decide +kernel
set_option maxRecDepth 100000 in
theorem k_Room_impose : (t_Room_impose.all fun c => c.2.all fun q => xok xWL xHL xcl xSL xNM xty0 xsf "PrePressRoom" xnG xG m_Room_impose q.1 q.2) = true := by decide +kernel
theorem h_She_lay : xmok xWL xcl m_She_lay [668, 51] = true := by decide +kernel
set_option maxRecDepth 100000 in
theorem k_She_lay : (t_She_lay.all fun c => c.2.all fun q => xok xWL xHL xcl xSL xNM xty0 xsf "PrePressRoom" xnG xG m_She_lay q.1 q.2) = true := by decide +kernel
theorem h_Leaf_start : xmok xWL xcl m_Leaf_start [672, 52] = true := by decide +kernel
set_option maxRecDepth 100000 in
theorem k_Leaf_start : (t_Leaf_start.all fun c => c.2.all fun q => xok xWL xHL xcl xSL xNM xty0 xsf "PrePressRoom" xnG xG m_Leaf_start q.1 q.2) = true := by decide +kernel
theorem h_She_fold : xmok xWL xcl m_She_fold [676, 51] = true := by decide +kernel
set_option maxRecDepth 100000 in
theorem k_She_fold : (t_She_fold.all fun c => c.2.all fun q => xok xWL xHL xcl xSL xNM xty0 xsf "PrePressRoom" xnG xG m_She_fold q.1 q.2) = true := by decide +kernel
theorem h_Leaf_foldRightOnLeft : xmok xWL xcl m_Leaf_foldRightOnLeft [680, 52] = true := by decide +kernel
set_option maxRecDepth 100000 in
theorem k_Leaf_foldRightOnLeft : (t_Leaf_foldRightOnLeft.all fun c => c.2.all fun q => xok xWL xHL xcl xSL xNM xty0 xsf "PrePressRoom" xnG xG m_Leaf_foldRightOnLeft q.1 q.2) = true := by decide +kernel
theorem h_Leaf_turnOver : xmok xWL xcl m_Leaf_turnOver [684, 52] = true := by decide +kernel
set_option maxRecDepth 100000 in
theorem k_Leaf_turnOver : (t_Leaf_turnOver.all fun c => c.2.all fun q => xok xWL xHL xcl xSL xNM xty0 xsf "PrePressRoom" xnG xG m_Leaf_turnOver q.1 q.2) = true := by decide +kernel
theorem h_Leaf_foldLowerOnUpper : xmok xWL xcl m_Leaf_foldLowerOnUpper [688, 52] = true := by decide +kernel
set_option maxRecDepth 100000 in
theorem k_Leaf_foldLowerOnUpper : (t_Leaf_foldLowerOnUpper.all fun c => c.2.all fun q => xok xWL xHL xcl xSL xNM xty0 xsf "PrePressRoom" xnG xG m_Leaf_foldLowerOnUpper q.1 q.2) = true := by decide +kernel
theorem h_Leaf_leavesAbove : xmok xWL xcl m_Leaf_leavesAbove [692, 52] = true := by decide +kernel
set_option maxRecDepth 100000 in
theorem k_Leaf_leavesAbove : (t_Leaf_leavesAbove.all fun c => c.2.all fun q => xok xWL xHL xcl xSL xNM xty0 xsf "PrePressRoom" xnG xG m_Leaf_leavesAbove q.1 q.2) = true := by decide +kernel
theorem h_She_sheetCount : xmok xWL xcl m_She_sheetCount [696, 51] = true := by decide +kernel
set_option maxRecDepth 100000 in
theorem k_She_sheetCount : (t_She_sheetCount.all fun c => c.2.all fun q => xok xWL xHL xcl xSL xNM xty0 xsf "PrePressRoom" xnG xG m_She_sheetCount q.1 q.2) = true := by decide +kernel
theorem h_Law_slot : xmok xWL xcl m_Law_slot [699, 42] = true := by decide +kernel
set_option maxRecDepth 100000 in
theorem k_Law_slot : (t_Law_slot.all fun c => c.2.all fun q => xok xWL xHL xcl xSL xNM xty0 xsf "PrePressRoom" xnG xG m_Law_slot q.1 q.2) = true := by decide +kernel
theorem h_Room_slot : xmok xWL xcl m_Room_slot [703, 43] = true := by decide +kernel
set_option maxRecDepth 100000 in
theorem k_Room_slot : (t_Room_slot.all fun c => c.2.all fun q => xok xWL xHL xcl xSL xNM xty0 xsf "PrePressRoom" xnG xG m_Room_slot q.1 q.2) = true := by decide +kernel
theorem h_Room_needLaid : xmok xWL xcl m_Room_needLaid [707, 43] = true := by decide +kernel
set_option maxRecDepth 100000 in
theorem k_Room_needLaid : (t_Room_needLaid.all fun c => c.2.all fun q => xok xWL xHL xcl xSL xNM xty0 xsf "PrePressRoom" xnG xG m_Room_needLaid q.1 q.2) = true := by decide +kernel
theorem h_She_leafCount : xmok xWL xcl m_She_leafCount [712, 51] = true := by decide +kernel
set_option maxRecDepth 100000 in
theorem k_She_leafCount : (t_She_leafCount.all fun c => c.2.all fun q => xok xWL xHL xcl xSL xNM xty0 xsf "PrePressRoom" xnG xG m_She_leafCount q.1 q.2) = true := by decide +kernel
theorem h_She_pageOn : xmok xWL xcl m_She_pageOn [716, 51] = true := by decide +kernel
set_option maxRecDepth 100000 in
theorem k_She_pageOn : (t_She_pageOn.all fun c => c.2.all fun q => xok xWL xHL xcl xSL xNM xty0 xsf "PrePressRoom" xnG xG m_She_pageOn q.1 q.2) = true := by decide +kernel
theorem h_Leaf_sideUp : xmok xWL xcl m_Leaf_sideUp [720, 52] = true := by decide +kernel
set_option maxRecDepth 100000 in
theorem k_Leaf_sideUp : (t_Leaf_sideUp.all fun c => c.2.all fun q => xok xWL xHL xcl xSL xNM xty0 xsf "PrePressRoom" xnG xG m_Leaf_sideUp q.1 q.2) = true := by decide +kernel
theorem h_She_turnOf : xmok xWL xcl m_She_turnOf [724, 51] = true := by decide +kernel
set_option maxRecDepth 100000 in
theorem k_She_turnOf : (t_She_turnOf.all fun c => c.2.all fun q => xok xWL xHL xcl xSL xNM xty0 xsf "PrePressRoom" xnG xG m_She_turnOf q.1 q.2) = true := by decide +kernel
theorem h_Leaf_turnAtEnd : xmok xWL xcl m_Leaf_turnAtEnd [728, 52] = true := by decide +kernel
set_option maxRecDepth 100000 in
theorem k_Leaf_turnAtEnd : (t_Leaf_turnAtEnd.all fun c => c.2.all fun q => xok xWL xHL xcl xSL xNM xty0 xsf "PrePressRoom" xnG xG m_Leaf_turnAtEnd q.1 q.2) = true := by decide +kernel
theorem h_She_moveOf : xmok xWL xcl m_She_moveOf [732, 51] = true := by decide +kernel
set_option maxRecDepth 100000 in
theorem k_She_moveOf : (t_She_moveOf.all fun c => c.2.all fun q => xok xWL xHL xcl xSL xNM xty0 xsf "PrePressRoom" xnG xG m_She_moveOf q.1 q.2) = true := by decide +kernel
theorem h_Law_read : xmok xWL xcl m_Law_read [736, 42] = true := by decide +kernel
set_option maxRecDepth 100000 in
theorem k_Law_read : (t_Law_read.all fun c => c.2.all fun q => xok xWL xHL xcl xSL xNM xty0 xsf "PrePressRoom" xnG xG m_Law_read q.1 q.2) = true := by decide +kernel
theorem h_Room_read : xmok xWL xcl m_Room_read [740, 43] = true := by decide +kernel
set_option maxRecDepth 100000 in
theorem k_Room_read : (t_Room_read.all fun c => c.2.all fun q => xok xWL xHL xcl xSL xNM xty0 xsf "PrePressRoom" xnG xG m_Room_read q.1 q.2) = true := by decide +kernel
theorem h_She_slotRead : xmok xWL xcl m_She_slotRead [744, 51] = true := by decide +kernel
set_option maxRecDepth 100000 in
theorem k_She_slotRead : (t_She_slotRead.all fun c => c.2.all fun q => xok xWL xHL xcl xSL xNM xty0 xsf "PrePressRoom" xnG xG m_She_slotRead q.1 q.2) = true := by decide +kernel
theorem h_She_sideRead : xmok xWL xcl m_She_sideRead [748, 51] = true := by decide +kernel
set_option maxRecDepth 100000 in
theorem k_She_sideRead : (t_She_sideRead.all fun c => c.2.all fun q => xok xWL xHL xcl xSL xNM xty0 xsf "PrePressRoom" xnG xG m_She_sideRead q.1 q.2) = true := by decide +kernel
theorem h_Mod_init : xmok xWL xcl m_Mod_init [754, 53] = true := by decide +kernel
set_option maxRecDepth 100000 in
theorem k_Mod_init : (t_Mod_init.all fun c => c.2.all fun q => xok xWL xHL xcl xSL xNM xty0 xsf "PrePressRoom" xnG xG m_Mod_init q.1 q.2) = true := by decide +kernel
theorem h_Mod_thrown : xmok xWL xcl m_Mod_thrown [854, 53] = true := by decide +kernel
set_option maxRecDepth 100000 in
theorem k_Mod_thrown : (t_Mod_thrown.all fun c => c.2.all fun q => xok xWL xHL xcl xSL xNM xty0 xsf "PrePressRoom" xnG xG m_Mod_thrown q.1 q.2) = true := by decide +kernel
theorem h_Mod_colour : xmok xWL xcl m_Mod_colour [858, 53] = true := by decide +kernel
set_option maxRecDepth 100000 in
theorem k_Mod_colour : (t_Mod_colour.all fun c => c.2.all fun q => xok xWL xHL xcl xSL xNM xty0 xsf "PrePressRoom" xnG xG m_Mod_colour q.1 q.2) = true := by decide +kernel
theorem h_Mod_within : xmok xWL xcl m_Mod_within [861, 53] = true := by decide +kernel
set_option maxRecDepth 100000 in
theorem k_Mod_within : (t_Mod_within.all fun c => c.2.all fun q => xok xWL xHL xcl xSL xNM xty0 xsf "PrePressRoom" xnG xG m_Mod_within q.1 q.2) = true := by decide +kernel
theorem h_Mod_fail : xmok xWL xcl m_Mod_fail [865, 53] = true := by decide +kernel
set_option maxRecDepth 100000 in
theorem k_Mod_fail : (t_Mod_fail.all fun c => c.2.all fun q => xok xWL xHL xcl xSL xNM xty0 xsf "PrePressRoom" xnG xG m_Mod_fail q.1 q.2) = true := by decide +kernel
theorem h_Mod_box : xmok xWL xcl m_Mod_box [869, 53] = true := by decide +kernel
set_option maxRecDepth 100000 in
theorem k_Mod_box : (t_Mod_box.all fun c => c.2.all fun q => xok xWL xHL xcl xSL xNM xty0 xsf "PrePressRoom" xnG xG m_Mod_box q.1 q.2) = true := by decide +kernel
theorem h_Mod_isPage : xmok xWL xcl m_Mod_isPage [872, 53] = true := by decide +kernel
set_option maxRecDepth 100000 in
theorem k_Mod_isPage : (t_Mod_isPage.all fun c => c.2.all fun q => xok xWL xHL xcl xSL xNM xty0 xsf "PrePressRoom" xnG xG m_Mod_isPage q.1 q.2) = true := by decide +kernel
theorem h_Mod_at : xmok xWL xcl m_Mod_at [875, 53] = true := by decide +kernel
set_option maxRecDepth 100000 in
theorem k_Mod_at : (t_Mod_at.all fun c => c.2.all fun q => xok xWL xHL xcl xSL xNM xty0 xsf "PrePressRoom" xnG xG m_Mod_at q.1 q.2) = true := by decide +kernel
theorem h_Mod_cell : xmok xWL xcl m_Mod_cell [879, 53] = true := by decide +kernel
set_option maxRecDepth 100000 in
theorem k_Mod_cell : (t_Mod_cell.all fun c => c.2.all fun q => xok xWL xHL xcl xSL xNM xty0 xsf "PrePressRoom" xnG xG m_Mod_cell q.1 q.2) = true := by decide +kernel
theorem h_Mod_isCell : xmok xWL xcl m_Mod_isCell [882, 53] = true := by decide +kernel
set_option maxRecDepth 100000 in
theorem k_Mod_isCell : (t_Mod_isCell.all fun c => c.2.all fun q => xok xWL xHL xcl xSL xNM xty0 xsf "PrePressRoom" xnG xG m_Mod_isCell q.1 q.2) = true := by decide +kernel
theorem h_Mod_grey : xmok xWL xcl m_Mod_grey [886, 53] = true := by decide +kernel
set_option maxRecDepth 100000 in
theorem k_Mod_grey : (t_Mod_grey.all fun c => c.2.all fun q => xok xWL xHL xcl xSL xNM xty0 xsf "PrePressRoom" xnG xG m_Mod_grey q.1 q.2) = true := by decide +kernel
