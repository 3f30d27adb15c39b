theorem h_Mod_fold : xmok xWL xcl m_Mod_fold [1001, 53] = true := by decide +kernel
set_option maxRecDepth 100000 in
theorem k_Mod_fold : (t_Mod_fold.all fun c => c.2.all fun q => xok xWL xHL xcl xSL xNM xty0 xsf "PrePressRoom" xnG xG m_Mod_fold q.1 q.2) = true := by decide +kernel
theorem h_Mod_slot : xmok xWL xcl m_Mod_slot [1005, 53] = true := by decide +kernel
set_option maxRecDepth 100000 in
theorem k_Mod_slot : (t_Mod_slot.all fun c => c.2.all fun q => xok xWL xHL xcl xSL xNM xty0 xsf "PrePressRoom" xnG xG m_Mod_slot q.1 q.2) = true := by decide +kernel
theorem h_Mod_read : xmok xWL xcl m_Mod_read [1009, 53] = true := by decide +kernel
set_option maxRecDepth 100000 in
theorem k_Mod_read : (t_Mod_read.all fun c => c.2.all fun q => xok xWL xHL xcl xSL xNM xty0 xsf "PrePressRoom" xnG xG m_Mod_read q.1 q.2) = true := by decide +kernel
