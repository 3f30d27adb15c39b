theorem h_Mod_separate : xmok xWL xcl m_Mod_separate [890, 53] = true := by decide +kernel
set_option maxRecDepth 100000 in
theorem k_Mod_separate : (t_Mod_separate.all fun c => c.2.all fun q => xok xWL xHL xcl xSL xNM xty0 xsf "PrePressRoom" xnG xG m_Mod_separate q.1 q.2) = true := by decide +kernel
theorem h_Mod_separateColour : xmok xWL xcl m_Mod_separateColour [894, 53] = true := by decide +kernel
set_option maxRecDepth 100000 in
theorem k_Mod_separateColour : (t_Mod_separateColour.all fun c => c.2.all fun q => xok xWL xHL xcl xSL xNM xty0 xsf "PrePressRoom" xnG xG m_Mod_separateColour q.1 q.2) = true := by decide +kernel
theorem h_Mod_plate : xmok xWL xcl m_Mod_plate [898, 53] = true := by decide +kernel
set_option maxRecDepth 100000 in
theorem k_Mod_plate : (t_Mod_plate.all fun c => c.2.all fun q => xok xWL xHL xcl xSL xNM xty0 xsf "PrePressRoom" xnG xG m_Mod_plate q.1 q.2) = true := by decide +kernel
theorem h_Mod_has : xmok xWL xcl m_Mod_has [902, 53] = true := by decide +kernel
set_option maxRecDepth 100000 in
theorem k_Mod_has : (t_Mod_has.all fun c => c.2.all fun q => xok xWL xHL xcl xSL xNM xty0 xsf "PrePressRoom" xnG xG m_Mod_has q.1 q.2) = true := by decide +kernel
theorem h_Mod_amountAt : xmok xWL xcl m_Mod_amountAt [906, 53] = true := by decide +kernel
set_option maxRecDepth 100000 in
theorem k_Mod_amountAt : (t_Mod_amountAt.all fun c => c.2.all fun q => xok xWL xHL xcl xSL xNM xty0 xsf "PrePressRoom" xnG xG m_Mod_amountAt q.1 q.2) = true := by decide +kernel
theorem h_Mod_amount : xmok xWL xcl m_Mod_amount [910, 53] = true := by decide +kernel
set_option maxRecDepth 100000 in
theorem k_Mod_amount : (t_Mod_amount.all fun c => c.2.all fun q => xok xWL xHL xcl xSL xNM xty0 xsf "PrePressRoom" xnG xG m_Mod_amount q.1 q.2) = true := by decide +kernel
theorem h_Mod_trap : xmok xWL xcl m_Mod_trap [914, 53] = true := by decide +kernel
set_option maxRecDepth 100000 in
theorem k_Mod_trap : (t_Mod_trap.all fun c => c.2.all fun q => xok xWL xHL xcl xSL xNM xty0 xsf "PrePressRoom" xnG xG m_Mod_trap q.1 q.2) = true := by decide +kernel
theorem h_Mod_spreading : xmok xWL xcl m_Mod_spreading [918, 53] = true := by decide +kernel
set_option maxRecDepth 100000 in
theorem k_Mod_spreading : (t_Mod_spreading.all fun c => c.2.all fun q => xok xWL xHL xcl xSL xNM xty0 xsf "PrePressRoom" xnG xG m_Mod_spreading q.1 q.2) = true := by decide +kernel
theorem h_Mod_isLighter : xmok xWL xcl m_Mod_isLighter [922, 53] = true := by decide +kernel
set_option maxRecDepth 100000 in
theorem k_Mod_isLighter : (t_Mod_isLighter.all fun c => c.2.all fun q => xok xWL xHL xcl xSL xNM xty0 xsf "PrePressRoom" xnG xG m_Mod_isLighter q.1 q.2) = true := by decide +kernel
theorem h_Mod_weight : xmok xWL xcl m_Mod_weight [926, 53] = true := by decide +kernel
set_option maxRecDepth 100000 in
theorem k_Mod_weight : (t_Mod_weight.all fun c => c.2.all fun q => xok xWL xHL xcl xSL xNM xty0 xsf "PrePressRoom" xnG xG m_Mod_weight q.1 q.2) = true := by decide +kernel
theorem h_Mod_isShy : xmok xWL xcl m_Mod_isShy [930, 53] = true := by decide +kernel
set_option maxRecDepth 100000 in
theorem k_Mod_isShy : (t_Mod_isShy.all fun c => c.2.all fun q => xok xWL xHL xcl xSL xNM xty0 xsf "PrePressRoom" xnG xG m_Mod_isShy q.1 q.2) = true := by decide +kernel
theorem h_Mod_trapped : xmok xWL xcl m_Mod_trapped [934, 53] = true := by decide +kernel
set_option maxRecDepth 100000 in
theorem k_Mod_trapped : (t_Mod_trapped.all fun c => c.2.all fun q => xok xWL xHL xcl xSL xNM xty0 xsf "PrePressRoom" xnG xG m_Mod_trapped q.1 q.2) = true := by decide +kernel
theorem h_Mod_screen : xmok xWL xcl m_Mod_screen [938, 53] = true := by decide +kernel
set_option maxRecDepth 100000 in
theorem k_Mod_screen : (t_Mod_screen.all fun c => c.2.all fun q => xok xWL xHL xcl xSL xNM xty0 xsf "PrePressRoom" xnG xG m_Mod_screen q.1 q.2) = true := by decide +kernel
theorem h_Mod_rank : xmok xWL xcl m_Mod_rank [942, 53] = true := by decide +kernel
set_option maxRecDepth 100000 in
theorem k_Mod_rank : (t_Mod_rank.all fun c => c.2.all fun q => xok xWL xHL xcl xSL xNM xty0 xsf "PrePressRoom" xnG xG m_Mod_rank q.1 q.2) = true := by decide +kernel
theorem h_Mod_rankOf : xmok xWL xcl m_Mod_rankOf [946, 53] = true := by decide +kernel
set_option maxRecDepth 100000 in
theorem k_Mod_rankOf : (t_Mod_rankOf.all fun c => c.2.all fun q => xok xWL xHL xcl xSL xNM xty0 xsf "PrePressRoom" xnG xG m_Mod_rankOf q.1 q.2) = true := by decide +kernel
theorem h_Mod_know : xmok xWL xcl m_Mod_know [950, 53] = true := by decide +kernel
set_option maxRecDepth 100000 in
theorem k_Mod_know : (t_Mod_know.all fun c => c.2.all fun q => xok xWL xHL xcl xSL xNM xty0 xsf "PrePressRoom" xnG xG m_Mod_know q.1 q.2) = true := by decide +kernel
theorem h_Mod_findHeart : xmok xWL xcl m_Mod_findHeart [954, 53] = true := by decide +kernel
set_option maxRecDepth 100000 in
theorem k_Mod_findHeart : (t_Mod_findHeart.all fun c => c.2.all fun q => xok xWL xHL xcl xSL xNM xty0 xsf "PrePressRoom" xnG xG m_Mod_findHeart q.1 q.2) = true := by decide +kernel
theorem h_Mod_sizeOf : xmok xWL xcl m_Mod_sizeOf [958, 53] = true := by decide +kernel
set_option maxRecDepth 100000 in
theorem k_Mod_sizeOf : (t_Mod_sizeOf.all fun c => c.2.all fun q => xok xWL xHL xcl xSL xNM xty0 xsf "PrePressRoom" xnG xG m_Mod_sizeOf q.1 q.2) = true := by decide +kernel
theorem h_Mod_rest : xmok xWL xcl m_Mod_rest [961, 53] = true := by decide +kernel
set_option maxRecDepth 100000 in
theorem k_Mod_rest : (t_Mod_rest.all fun c => c.2.all fun q => xok xWL xHL xcl xSL xNM xty0 xsf "PrePressRoom" xnG xG m_Mod_rest q.1 q.2) = true := by decide +kernel
theorem h_Mod_isBefore : xmok xWL xcl m_Mod_isBefore [965, 53] = true := by decide +kernel
set_option maxRecDepth 100000 in
theorem k_Mod_isBefore : (t_Mod_isBefore.all fun c => c.2.all fun q => xok xWL xHL xcl xSL xNM xty0 xsf "PrePressRoom" xnG xG m_Mod_isBefore q.1 q.2) = true := by decide +kernel
theorem h_Mod_formOf : xmok xWL xcl m_Mod_formOf [969, 53] = true := by decide +kernel
set_option maxRecDepth 100000 in
theorem k_Mod_formOf : (t_Mod_formOf.all fun c => c.2.all fun q => xok xWL xHL xcl xSL xNM xty0 xsf "PrePressRoom" xnG xG m_Mod_formOf q.1 q.2) = true := by decide +kernel
theorem h_Mod_heartNumber : xmok xWL xcl m_Mod_heartNumber [973, 53] = true := by decide +kernel
set_option maxRecDepth 100000 in
theorem k_Mod_heartNumber : (t_Mod_heartNumber.all fun c => c.2.all fun q => xok xWL xHL xcl xSL xNM xty0 xsf "PrePressRoom" xnG xG m_Mod_heartNumber q.1 q.2) = true := by decide +kernel
theorem h_Mod_addHeart : xmok xWL xcl m_Mod_addHeart [977, 53] = true := by decide +kernel
set_option maxRecDepth 100000 in
theorem k_Mod_addHeart : (t_Mod_addHeart.all fun c => c.2.all fun q => xok xWL xHL xcl xSL xNM xty0 xsf "PrePressRoom" xnG xG m_Mod_addHeart q.1 q.2) = true := by decide +kernel
theorem h_Mod_dot : xmok xWL xcl m_Mod_dot [981, 53] = true := by decide +kernel
set_option maxRecDepth 100000 in
theorem k_Mod_dot : (t_Mod_dot.all fun c => c.2.all fun q => xok xWL xHL xcl xSL xNM xty0 xsf "PrePressRoom" xnG xG m_Mod_dot q.1 q.2) = true := by decide +kernel
theorem h_Mod_isDot : xmok xWL xcl m_Mod_isDot [985, 53] = true := by decide +kernel
set_option maxRecDepth 100000 in
theorem k_Mod_isDot : (t_Mod_isDot.all fun c => c.2.all fun q => xok xWL xHL xcl xSL xNM xty0 xsf "PrePressRoom" xnG xG m_Mod_isDot q.1 q.2) = true := by decide +kernel
theorem h_Mod_share : xmok xWL xcl m_Mod_share [989, 53] = true := by decide +kernel
set_option maxRecDepth 100000 in
theorem k_Mod_share : (t_Mod_share.all fun c => c.2.all fun q => xok xWL xHL xcl xSL xNM xty0 xsf "PrePressRoom" xnG xG m_Mod_share q.1 q.2) = true := by decide +kernel
theorem h_Mod_proof : xmok xWL xcl m_Mod_proof [993, 53] = true := by decide +kernel
set_option maxRecDepth 100000 in
theorem k_Mod_proof : (t_Mod_proof.all fun c => c.2.all fun q => xok xWL xHL xcl xSL xNM xty0 xsf "PrePressRoom" xnG xG m_Mod_proof q.1 q.2) = true := by decide +kernel
theorem h_Mod_impose : xmok xWL xcl m_Mod_impose [997, 53] = true := by decide +kernel
set_option maxRecDepth 100000 in
theorem k_Mod_impose : (t_Mod_impose.all fun c => c.2.all fun q => xok xWL xHL xcl xSL xNM xty0 xsf "PrePressRoom" xnG xG m_Mod_impose q.1 q.2) = true := by decide +kernel
