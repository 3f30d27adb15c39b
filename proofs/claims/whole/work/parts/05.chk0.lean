theorem h_Room_init : xmok xWL xcl m_Room_init [66, 43] = true := by decide +kernel
set_option maxRecDepth 100000 in
theorem k_Room_init : (t_Room_init.all fun c => c.2.all fun q => xok xWL xHL xcl xSL xNM xty0 xsf "PrePressRoom" xnG xG m_Room_init q.1 q.2) = true := by decide +kernel
theorem h_Job_init : xmok xWL xcl m_Job_init [77, 44] = true := by decide +kernel
set_option maxRecDepth 100000 in
theorem k_Job_init : (t_Job_init.all fun c => c.2.all fun q => xok xWL xHL xcl xSL xNM xty0 xsf "PrePressRoom" xnG xG m_Job_init q.1 q.2) = true := by decide +kernel
theorem h_Spr_init : xmok xWL xcl m_Spr_init [100, 45] = true := by decide +kernel
set_option maxRecDepth 100000 in
theorem k_Spr_init : (t_Spr_init.all fun c => c.2.all fun q => xok xWL xHL xcl xSL xNM xty0 xsf "PrePressRoom" xnG xG m_Spr_init q.1 q.2) = true := by decide +kernel
theorem h_Pla_init : xmok xWL xcl m_Pla_init [125, 46] = true := by decide +kernel
set_option maxRecDepth 100000 in
theorem k_Pla_init : (t_Pla_init.all fun c => c.2.all fun q => xok xWL xHL xcl xSL xNM xty0 xsf "PrePressRoom" xnG xG m_Pla_init q.1 q.2) = true := by decide +kernel
theorem h_Pla_distanceOf : xmok xWL xcl m_Pla_distanceOf [129, 46] = true := by decide +kernel
set_option maxRecDepth 100000 in
theorem k_Pla_distanceOf : (t_Pla_distanceOf.all fun c => c.2.all fun q => xok xWL xHL xcl xSL xNM xty0 xsf "PrePressRoom" xnG xG m_Pla_distanceOf q.1 q.2) = true := by decide +kernel
theorem h_Pla_xOf : xmok xWL xcl m_Pla_xOf [132, 46] = true := by decide +kernel
set_option maxRecDepth 100000 in
theorem k_Pla_xOf : (t_Pla_xOf.all fun c => c.2.all fun q => xok xWL xHL xcl xSL xNM xty0 xsf "PrePressRoom" xnG xG m_Pla_xOf q.1 q.2) = true := by decide +kernel
theorem h_Pla_yOf : xmok xWL xcl m_Pla_yOf [135, 46] = true := by decide +kernel
set_option maxRecDepth 100000 in
theorem k_Pla_yOf : (t_Pla_yOf.all fun c => c.2.all fun q => xok xWL xHL xcl xSL xNM xty0 xsf "PrePressRoom" xnG xG m_Pla_yOf q.1 q.2) = true := by decide +kernel
theorem h_Pla_sortByForm : xmok xWL xcl m_Pla_sortByForm [139, 46] = true := by decide +kernel
set_option maxRecDepth 100000 in
theorem k_Pla_sortByForm : (t_Pla_sortByForm.all fun c => c.2.all fun q => xok xWL xHL xcl xSL xNM xty0 xsf "PrePressRoom" xnG xG m_Pla_sortByForm q.1 q.2) = true := by decide +kernel
theorem h_Arrays_fill : xmok xWL xcl m_Arrays_fill [142, 47] = true := by decide +kernel
set_option maxRecDepth 100000 in
theorem k_Arrays_fill : (t_Arrays_fill.all fun c => c.2.all fun q => xok xWL xHL xcl xSL xNM xty0 xsf "PrePressRoom" xnG xG m_Arrays_fill q.1 q.2) = true := by decide +kernel
theorem h_Pla_formOf : xmok xWL xcl m_Pla_formOf [145, 46] = true := by decide +kernel
set_option maxRecDepth 100000 in
theorem k_Pla_formOf : (t_Pla_formOf.all fun c => c.2.all fun q => xok xWL xHL xcl xSL xNM xty0 xsf "PrePressRoom" xnG xG m_Pla_formOf q.1 q.2) = true := by decide +kernel
theorem h_Math_abs : xmok xWL xcl m_Math_abs [148, 48] = true := by decide +kernel
set_option maxRecDepth 100000 in
theorem k_Math_abs : (t_Math_abs.all fun c => c.2.all fun q => xok xWL xHL xcl xSL xNM xty0 xsf "PrePressRoom" xnG xG m_Math_abs q.1 q.2) = true := by decide +kernel
theorem h_Scr_init : xmok xWL xcl m_Scr_init [168, 50] = true := by decide +kernel
set_option maxRecDepth 100000 in
theorem k_Scr_init : (t_Scr_init.all fun c => c.2.all fun q => xok xWL xHL xcl xSL xNM xty0 xsf "PrePressRoom" xnG xG m_Scr_init q.1 q.2) = true := by decide +kernel
theorem h_Scr_lay : xmok xWL xcl m_Scr_lay [173, 50] = true := by decide +kernel
set_option maxRecDepth 100000 in
theorem k_Scr_lay : (t_Scr_lay.all fun c => c.2.all fun q => xok xWL xHL xcl xSL xNM xty0 xsf "PrePressRoom" xnG xG m_Scr_lay q.1 q.2) = true := by decide +kernel
theorem h_Scr_greatestDivisor : xmok xWL xcl m_Scr_greatestDivisor [176, 50] = true := by decide +kernel
set_option maxRecDepth 100000 in
theorem k_Scr_greatestDivisor : (t_Scr_greatestDivisor.all fun c => c.2.all fun q => xok xWL xHL xcl xSL xNM xty0 xsf "PrePressRoom" xnG xG m_Scr_greatestDivisor q.1 q.2) = true := by decide +kernel
theorem h_Scr_shiftOfRows : xmok xWL xcl m_Scr_shiftOfRows [180, 50] = true := by decide +kernel
set_option maxRecDepth 100000 in
theorem k_Scr_shiftOfRows : (t_Scr_shiftOfRows.all fun c => c.2.all fun q => xok xWL xHL xcl xSL xNM xty0 xsf "PrePressRoom" xnG xG m_Scr_shiftOfRows q.1 q.2) = true := by decide +kernel
theorem h_Scr_isOfLattice : xmok xWL xcl m_Scr_isOfLattice [184, 50] = true := by decide +kernel
set_option maxRecDepth 100000 in
theorem k_Scr_isOfLattice : (t_Scr_isOfLattice.all fun c => c.2.all fun q => xok xWL xHL xcl xSL xNM xty0 xsf "PrePressRoom" xnG xG m_Scr_isOfLattice q.1 q.2) = true := by decide +kernel
theorem h_Pla_countWithin : xmok xWL xcl m_Pla_countWithin [188, 46] = true := by decide +kernel
set_option maxRecDepth 100000 in
theorem k_Pla_countWithin : (t_Pla_countWithin.all fun c => c.2.all fun q => xok xWL xHL xcl xSL xNM xty0 xsf "PrePressRoom" xnG xG m_Pla_countWithin q.1 q.2) = true := by decide +kernel
theorem h_Pla_inOrder : xmok xWL xcl m_Pla_inOrder [192, 46] = true := by decide +kernel
set_option maxRecDepth 100000 in
theorem k_Pla_inOrder : (t_Pla_inOrder.all fun c => c.2.all fun q => xok xWL xHL xcl xSL xNM xty0 xsf "PrePressRoom" xnG xG m_Pla_inOrder q.1 q.2) = true := by decide +kernel
theorem h_Scr_giveRanks : xmok xWL xcl m_Scr_giveRanks [196, 50] = true := by decide +kernel
set_option maxRecDepth 100000 in
theorem k_Scr_giveRanks : (t_Scr_giveRanks.all fun c => c.2.all fun q => xok xWL xHL xcl xSL xNM xty0 xsf "PrePressRoom" xnG xG m_Scr_giveRanks q.1 q.2) = true := by decide +kernel
theorem h_Scr_classAt : xmok xWL xcl m_Scr_classAt [203, 50] = true := by decide +kernel
set_option maxRecDepth 100000 in
theorem k_Scr_classAt : (t_Scr_classAt.all fun c => c.2.all fun q => xok xWL xHL xcl xSL xNM xty0 xsf "PrePressRoom" xnG xG m_Scr_classAt q.1 q.2) = true := by decide +kernel
theorem h_Math_floorDiv : xmok xWL xcl m_Math_floorDiv [206, 48] = true := by decide +kernel
set_option maxRecDepth 100000 in
theorem k_Math_floorDiv : (t_Math_floorDiv.all fun c => c.2.all fun q => xok xWL xHL xcl xSL xNM xty0 xsf "PrePressRoom" xnG xG m_Math_floorDiv q.1 q.2) = true := by decide +kernel
theorem h_Math_floorMod : xmok xWL xcl m_Math_floorMod [209, 48] = true := by decide +kernel
set_option maxRecDepth 100000 in
theorem k_Math_floorMod : (t_Math_floorMod.all fun c => c.2.all fun q => xok xWL xHL xcl xSL xNM xty0 xsf "PrePressRoom" xnG xG m_Math_floorMod q.1 q.2) = true := by decide +kernel
theorem h_She_init : xmok xWL xcl m_She_init [233, 51] = true := by decide +kernel
set_option maxRecDepth 100000 in
theorem k_She_init : (t_She_init.all fun c => c.2.all fun q => xok xWL xHL xcl xSL xNM xty0 xsf "PrePressRoom" xnG xG m_She_init q.1 q.2) = true := by decide +kernel
theorem h_Leaf_init : xmok xWL xcl m_Leaf_init [240, 52] = true := by decide +kernel
set_option maxRecDepth 100000 in
theorem k_Leaf_init : (t_Leaf_init.all fun c => c.2.all fun q => xok xWL xHL xcl xSL xNM xty0 xsf "PrePressRoom" xnG xG m_Leaf_init q.1 q.2) = true := by decide +kernel
theorem h_Law_colour : xmok xWL xcl m_Law_colour [301, 42] = true := by decide +kernel
set_option maxRecDepth 100000 in
theorem k_Law_colour : (t_Law_colour.all fun c => c.2.all fun q => xok xWL xHL xcl xSL xNM xty0 xsf "PrePressRoom" xnG xG m_Law_colour q.1 q.2) = true := by decide +kernel
theorem h_Room_colour : xmok xWL xcl m_Room_colour [308, 43] = true := by decide +kernel
set_option maxRecDepth 100000 in
theorem k_Room_colour : (t_Room_colour.all fun c => c.2.all fun q => xok xWL xHL xcl xSL xNM xty0 xsf "PrePressRoom" xnG xG m_Room_colour q.1 q.2) = true := by decide +kernel
theorem h_Room_needIndex : xmok xWL xcl m_Room_needIndex [311, 43] = true := by decide +kernel
set_option maxRecDepth 100000 in
theorem k_Room_needIndex : (t_Room_needIndex.all fun c => c.2.all fun q => xok xWL xHL xcl xSL xNM xty0 xsf "PrePressRoom" xnG xG m_Room_needIndex q.1 q.2) = true := by decide +kernel
theorem h_Room_needBetween : xmok xWL xcl m_Room_needBetween [382, 43] = true := by decide +kernel
set_option maxRecDepth 100000 in
theorem k_Room_needBetween : (t_Room_needBetween.all fun c => c.2.all fun q => xok xWL xHL xcl xSL xNM xty0 xsf "PrePressRoom" xnG xG m_Room_needBetween q.1 q.2) = true := by decide +kernel
theorem h_Room_hasOtherSpot : xmok xWL xcl m_Room_hasOtherSpot [402, 43] = true := by decide +kernel
set_option maxRecDepth 100000 in
theorem k_Room_hasOtherSpot : (t_Room_hasOtherSpot.all fun c => c.2.all fun q => xok xWL xHL xcl xSL xNM xty0 xsf "PrePressRoom" xnG xG m_Room_hasOtherSpot q.1 q.2) = true := by decide +kernel
theorem h_Law_box : xmok xWL xcl m_Law_box [421, 42] = true := by decide +kernel
set_option maxRecDepth 100000 in
theorem k_Law_box : (t_Law_box.all fun c => c.2.all fun q => xok xWL xHL xcl xSL xNM xty0 xsf "PrePressRoom" xnG xG m_Law_box q.1 q.2) = true := by decide +kernel
theorem h_Room_box : xmok xWL xcl m_Room_box [425, 43] = true := by decide +kernel
set_option maxRecDepth 100000 in
theorem k_Room_box : (t_Room_box.all fun c => c.2.all fun q => xok xWL xHL xcl xSL xNM xty0 xsf "PrePressRoom" xnG xG m_Room_box q.1 q.2) = true := by decide +kernel
theorem h_Room_needSpan : xmok xWL xcl m_Room_needSpan [428, 43] = true := by decide +kernel
set_option maxRecDepth 100000 in
theorem k_Room_needSpan : (t_Room_needSpan.all fun c => c.2.all fun q => xok xWL xHL xcl xSL xNM xty0 xsf "PrePressRoom" xnG xG m_Room_needSpan q.1 q.2) = true := by decide +kernel
theorem h_Law_cell : xmok xWL xcl m_Law_cell [431, 42] = true := by decide +kernel
set_option maxRecDepth 100000 in
theorem k_Law_cell : (t_Law_cell.all fun c => c.2.all fun q => xok xWL xHL xcl xSL xNM xty0 xsf "PrePressRoom" xnG xG m_Law_cell q.1 q.2) = true := by decide +kernel
theorem h_Room_cell : xmok xWL xcl m_Room_cell [435, 43] = true := by decide +kernel
set_option maxRecDepth 100000 in
theorem k_Room_cell : (t_Room_cell.all fun c => c.2.all fun q => xok xWL xHL xcl xSL xNM xty0 xsf "PrePressRoom" xnG xG m_Room_cell q.1 q.2) = true := by decide +kernel
theorem h_Room_needCell : xmok xWL xcl m_Room_needCell [438, 43] = true := by decide +kernel
set_option maxRecDepth 100000 in
theorem k_Room_needCell : (t_Room_needCell.all fun c => c.2.all fun q => xok xWL xHL xcl xSL xNM xty0 xsf "PrePressRoom" xnG xG m_Room_needCell q.1 q.2) = true := by decide +kernel
theorem h_Room_cellAt : xmok xWL xcl m_Room_cellAt [441, 43] = true := by decide +kernel
set_option maxRecDepth 100000 in
theorem k_Room_cellAt : (t_Room_cellAt.all fun c => c.2.all fun q => xok xWL xHL xcl xSL xNM xty0 xsf "PrePressRoom" xnG xG m_Room_cellAt q.1 q.2) = true := by decide +kernel
theorem h_Law_grey : xmok xWL xcl m_Law_grey [444, 42] = true := by decide +kernel
set_option maxRecDepth 100000 in
theorem k_Law_grey : (t_Law_grey.all fun c => c.2.all fun q => xok xWL xHL xcl xSL xNM xty0 xsf "PrePressRoom" xnG xG m_Law_grey q.1 q.2) = true := by decide +kernel
theorem h_Room_grey : xmok xWL xcl m_Room_grey [448, 43] = true := by decide +kernel
set_option maxRecDepth 100000 in
theorem k_Room_grey : (t_Room_grey.all fun c => c.2.all fun q => xok xWL xHL xcl xSL xNM xty0 xsf "PrePressRoom" xnG xG m_Room_grey q.1 q.2) = true := by decide +kernel
theorem h_Law_separate : xmok xWL xcl m_Law_separate [451, 42] = true := by decide +kernel
set_option maxRecDepth 100000 in
theorem k_Law_separate : (t_Law_separate.all fun c => c.2.all fun q => xok xWL xHL xcl xSL xNM xty0 xsf "PrePressRoom" xnG xG m_Law_separate q.1 q.2) = true := by decide +kernel
theorem h_Room_separate : xmok xWL xcl m_Room_separate [455, 43] = true := by decide +kernel
set_option maxRecDepth 100000 in
theorem k_Room_separate : (t_Room_separate.all fun c => c.2.all fun q => xok xWL xHL xcl xSL xNM xty0 xsf "PrePressRoom" xnG xG m_Room_separate q.1 q.2) = true := by decide +kernel
theorem h_Job_make : xmok xWL xcl m_Job_make [459, 44] = true := by decide +kernel
set_option maxRecDepth 100000 in
theorem k_Job_make : (t_Job_make.all fun c => c.2.all fun q => xok xWL xHL xcl xSL xNM xty0 xsf "PrePressRoom" xnG xG m_Job_make q.1 q.2) = true := by decide +kernel
theorem h_Job_moveToBlack : xmok xWL xcl m_Job_moveToBlack [465, 44] = true := by decide +kernel
set_option maxRecDepth 100000 in
theorem k_Job_moveToBlack : (t_Job_moveToBlack.all fun c => c.2.all fun q => xok xWL xHL xcl xSL xNM xty0 xsf "PrePressRoom" xnG xG m_Job_moveToBlack q.1 q.2) = true := by decide +kernel
theorem h_Math_min : xmok xWL xcl m_Math_min [468, 48] = true := by decide +kernel
set_option maxRecDepth 100000 in
theorem k_Math_min : (t_Math_min.all fun c => c.2.all fun q => xok xWL xHL xcl xSL xNM xty0 xsf "PrePressRoom" xnG xG m_Math_min q.1 q.2) = true := by decide +kernel
theorem h_Job_keepLimit : xmok xWL xcl m_Job_keepLimit [472, 44] = true := by decide +kernel
set_option maxRecDepth 100000 in
theorem k_Job_keepLimit : (t_Job_keepLimit.all fun c => c.2.all fun q => xok xWL xHL xcl xSL xNM xty0 xsf "PrePressRoom" xnG xG m_Job_keepLimit q.1 q.2) = true := by decide +kernel
theorem h_Math_max : xmok xWL xcl m_Math_max [475, 48] = true := by decide +kernel
set_option maxRecDepth 100000 in
theorem k_Math_max : (t_Math_max.all fun c => c.2.all fun q => xok xWL xHL xcl xSL xNM xty0 xsf "PrePressRoom" xnG xG m_Math_max q.1 q.2) = true := by decide +kernel
theorem h_Job_countColours : xmok xWL xcl m_Job_countColours [479, 44] = true := by decide +kernel
set_option maxRecDepth 100000 in
theorem k_Job_countColours : (t_Job_countColours.all fun c => c.2.all fun q => xok xWL xHL xcl xSL xNM xty0 xsf "PrePressRoom" xnG xG m_Job_countColours q.1 q.2) = true := by decide +kernel
theorem h_Long_bitCount : xmok xWL xcl m_Long_bitCount [482, 60] = true := by decide +kernel
set_option maxRecDepth 100000 in
theorem k_Long_bitCount : (t_Long_bitCount.all fun c => c.2.all fun q => xok xWL xHL xcl xSL xNM xty0 xsf "PrePressRoom" xnG xG m_Long_bitCount q.1 q.2) = true := by decide +kernel
theorem h_Law_plate : xmok xWL xcl m_Law_plate [488, 42] = true := by decide +kernel
set_option maxRecDepth 100000 in
theorem k_Law_plate : (t_Law_plate.all fun c => c.2.all fun q => xok xWL xHL xcl xSL xNM xty0 xsf "PrePressRoom" xnG xG m_Law_plate q.1 q.2) = true := by decide +kernel
theorem h_Room_plate : xmok xWL xcl m_Room_plate [492, 43] = true := by decide +kernel
set_option maxRecDepth 100000 in
theorem k_Room_plate : (t_Room_plate.all fun c => c.2.all fun q => xok xWL xHL xcl xSL xNM xty0 xsf "PrePressRoom" xnG xG m_Room_plate q.1 q.2) = true := by decide +kernel
theorem h_Room_madeJob : xmok xWL xcl m_Room_madeJob [496, 43] = true := by decide +kernel
set_option maxRecDepth 100000 in
theorem k_Room_madeJob : (t_Room_madeJob.all fun c => c.2.all fun q => xok xWL xHL xcl xSL xNM xty0 xsf "PrePressRoom" xnG xG m_Room_madeJob q.1 q.2) = true := by decide +kernel
theorem h_Job_isMade : xmok xWL xcl m_Job_isMade [500, 44] = true := by decide +kernel
set_option maxRecDepth 100000 in
theorem k_Job_isMade : (t_Job_isMade.all fun c => c.2.all fun q => xok xWL xHL xcl xSL xNM xty0 xsf "PrePressRoom" xnG xG m_Job_isMade q.1 q.2) = true := by decide +kernel
theorem h_Job_amountAt : xmok xWL xcl m_Job_amountAt [505, 44] = true := by decide +kernel
set_option maxRecDepth 100000 in
theorem k_Job_amountAt : (t_Job_amountAt.all fun c => c.2.all fun q => xok xWL xHL xcl xSL xNM xty0 xsf "PrePressRoom" xnG xG m_Job_amountAt q.1 q.2) = true := by decide +kernel
theorem h_Law_trap : xmok xWL xcl m_Law_trap [508, 42] = true := by decide +kernel
set_option maxRecDepth 100000 in
theorem k_Law_trap : (t_Law_trap.all fun c => c.2.all fun q => xok xWL xHL xcl xSL xNM xty0 xsf "PrePressRoom" xnG xG m_Law_trap q.1 q.2) = true := by decide +kernel
theorem h_Room_trap : xmok xWL xcl m_Room_trap [512, 43] = true := by decide +kernel
set_option maxRecDepth 100000 in
theorem k_Room_trap : (t_Room_trap.all fun c => c.2.all fun q => xok xWL xHL xcl xSL xNM xty0 xsf "PrePressRoom" xnG xG m_Room_trap q.1 q.2) = true := by decide +kernel
theorem h_Job_isSpread : xmok xWL xcl m_Job_isSpread [516, 44] = true := by decide +kernel
set_option maxRecDepth 100000 in
theorem k_Job_isSpread : (t_Job_isSpread.all fun c => c.2.all fun q => xok xWL xHL xcl xSL xNM xty0 xsf "PrePressRoom" xnG xG m_Job_isSpread q.1 q.2) = true := by decide +kernel
theorem h_Spr_spread : xmok xWL xcl m_Spr_spread [521, 45] = true := by decide +kernel
set_option maxRecDepth 100000 in
theorem k_Spr_spread : (t_Spr_spread.all fun c => c.2.all fun q => xok xWL xHL xcl xSL xNM xty0 xsf "PrePressRoom" xnG xG m_Spr_spread q.1 q.2) = true := by decide +kernel
theorem h_Spr_weigh : xmok xWL xcl m_Spr_weigh [525, 45] = true := by decide +kernel
set_option maxRecDepth 100000 in
theorem k_Spr_weigh : (t_Spr_weigh.all fun c => c.2.all fun q => xok xWL xHL xcl xSL xNM xty0 xsf "PrePressRoom" xnG xG m_Spr_weigh q.1 q.2) = true := by decide +kernel
theorem h_Job_inksOf : xmok xWL xcl m_Job_inksOf [529, 44] = true := by decide +kernel
set_option maxRecDepth 100000 in
theorem k_Job_inksOf : (t_Job_inksOf.all fun c => c.2.all fun q => xok xWL xHL xcl xSL xNM xty0 xsf "PrePressRoom" xnG xG m_Job_inksOf q.1 q.2) = true := by decide +kernel
theorem h_Job_weightOf : xmok xWL xcl m_Job_weightOf [533, 44] = true := by decide +kernel
set_option maxRecDepth 100000 in
theorem k_Job_weightOf : (t_Job_weightOf.all fun c => c.2.all fun q => xok xWL xHL xcl xSL xNM xty0 xsf "PrePressRoom" xnG xG m_Job_weightOf q.1 q.2) = true := by decide +kernel
theorem h_Spr_lighterShyOf : xmok xWL xcl m_Spr_lighterShyOf [539, 45] = true := by decide +kernel
set_option maxRecDepth 100000 in
theorem k_Spr_lighterShyOf : (t_Spr_lighterShyOf.all fun c => c.2.all fun q => xok xWL xHL xcl xSL xNM xty0 xsf "PrePressRoom" xnG xG m_Spr_lighterShyOf q.1 q.2) = true := by decide +kernel
theorem h_Spr_isShy : xmok xWL xcl m_Spr_isShy [543, 45] = true := by decide +kernel
set_option maxRecDepth 100000 in
theorem k_Spr_isShy : (t_Spr_isShy.all fun c => c.2.all fun q => xok xWL xHL xcl xSL xNM xty0 xsf "PrePressRoom" xnG xG m_Spr_isShy q.1 q.2) = true := by decide +kernel
theorem h_Spr_isLighter : xmok xWL xcl m_Spr_isLighter [547, 45] = true := by decide +kernel
set_option maxRecDepth 100000 in
theorem k_Spr_isLighter : (t_Spr_isLighter.all fun c => c.2.all fun q => xok xWL xHL xcl xSL xNM xty0 xsf "PrePressRoom" xnG xG m_Spr_isLighter q.1 q.2) = true := by decide +kernel
