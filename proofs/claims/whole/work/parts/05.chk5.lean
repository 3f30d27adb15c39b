set_option maxRecDepth 100000 in
theorem k_Law_law20 : ((t_Law_law.getD 20 (0, [])).2.all fun q => xok xWL xHL xcl xSL xNM xty0 xsf "PrePressRoom" xnG xG m_Law_law q.1 q.2) = true := by decide +kernel
set_option maxRecDepth 100000 in
theorem k_Law_law21 : ((t_Law_law.getD 21 (0, [])).2.all fun q => xok xWL xHL xcl xSL xNM xty0 xsf "PrePressRoom" xnG xG m_Law_law q.1 q.2) = true := by decide +kernel
set_option maxRecDepth 100000 in
theorem k_Law_law22 : ((t_Law_law.getD 22 (0, [])).2.all fun q => xok xWL xHL xcl xSL xNM xty0 xsf "PrePressRoom" xnG xG m_Law_law q.1 q.2) = true := by decide +kernel
set_option maxRecDepth 100000 in
theorem k_Law_law23 : ((t_Law_law.getD 23 (0, [])).2.all fun q => xok xWL xHL xcl xSL xNM xty0 xsf "PrePressRoom" xnG xG m_Law_law q.1 q.2) = true := by decide +kernel
set_option maxRecDepth 100000 in
theorem k_Law_law24 : ((t_Law_law.getD 24 (0, [])).2.all fun q => xok xWL xHL xcl xSL xNM xty0 xsf "PrePressRoom" xnG xG m_Law_law q.1 q.2) = true := by decide +kernel
set_option maxRecDepth 100000 in
theorem k_Law_law25 : ((t_Law_law.getD 25 (0, [])).2.all fun q => xok xWL xHL xcl xSL xNM xty0 xsf "PrePressRoom" xnG xG m_Law_law q.1 q.2) = true := by decide +kernel
set_option maxRecDepth 100000 in
theorem k_Law_law26 : ((t_Law_law.getD 26 (0, [])).2.all fun q => xok xWL xHL xcl xSL xNM xty0 xsf "PrePressRoom" xnG xG m_Law_law q.1 q.2) = true := by decide +kernel
set_option maxRecDepth 100000 in
theorem k_Law_law27 : ((t_Law_law.getD 27 (0, [])).2.all fun q => xok xWL xHL xcl xSL xNM xty0 xsf "PrePressRoom" xnG xG m_Law_law q.1 q.2) = true := by decide +kernel
set_option maxRecDepth 100000 in
theorem k_Law_law28 : ((t_Law_law.getD 28 (0, [])).2.all fun q => xok xWL xHL xcl xSL xNM xty0 xsf "PrePressRoom" xnG xG m_Law_law q.1 q.2) = true := by decide +kernel
set_option maxRecDepth 100000 in
theorem k_Law_law29 : ((t_Law_law.getD 29 (0, [])).2.all fun q => xok xWL xHL xcl xSL xNM xty0 xsf "PrePressRoom" xnG xG m_Law_law q.1 q.2) = true := by decide +kernel
set_option maxRecDepth 100000 in
theorem k_Law_law30 : ((t_Law_law.getD 30 (0, [])).2.all fun q => xok xWL xHL xcl xSL xNM xty0 xsf "PrePressRoom" xnG xG m_Law_law q.1 q.2) = true := by decide +kernel
set_option maxRecDepth 100000 in
theorem k_Law_law31 : ((t_Law_law.getD 31 (0, [])).2.all fun q => xok xWL xHL xcl xSL xNM xty0 xsf "PrePressRoom" xnG xG m_Law_law q.1 q.2) = true := by decide +kernel
set_option maxRecDepth 100000 in
theorem k_Law_law32 : ((t_Law_law.getD 32 (0, [])).2.all fun q => xok xWL xHL xcl xSL xNM xty0 xsf "PrePressRoom" xnG xG m_Law_law q.1 q.2) = true := by decide +kernel
set_option maxRecDepth 100000 in
theorem k_Law_law33 : ((t_Law_law.getD 33 (0, [])).2.all fun q => xok xWL xHL xcl xSL xNM xty0 xsf "PrePressRoom" xnG xG m_Law_law q.1 q.2) = true := by decide +kernel
set_option maxRecDepth 100000 in
theorem k_Law_law34 : ((t_Law_law.getD 34 (0, [])).2.all fun q => xok xWL xHL xcl xSL xNM xty0 xsf "PrePressRoom" xnG xG m_Law_law q.1 q.2) = true := by decide +kernel
set_option maxRecDepth 100000 in
theorem k_Law_law35 : ((t_Law_law.getD 35 (0, [])).2.all fun q => xok xWL xHL xcl xSL xNM xty0 xsf "PrePressRoom" xnG xG m_Law_law q.1 q.2) = true := by decide +kernel
set_option maxRecDepth 100000 in
theorem k_Law_law36 : ((t_Law_law.getD 36 (0, [])).2.all fun q => xok xWL xHL xcl xSL xNM xty0 xsf "PrePressRoom" xnG xG m_Law_law q.1 q.2) = true := by decide +kernel
set_option maxRecDepth 100000 in
theorem k_Law_law37 : ((t_Law_law.getD 37 (0, [])).2.all fun q => xok xWL xHL xcl xSL xNM xty0 xsf "PrePressRoom" xnG xG m_Law_law q.1 q.2) = true := by decide +kernel
set_option maxRecDepth 100000 in
theorem k_Law_law38 : ((t_Law_law.getD 38 (0, [])).2.all fun q => xok xWL xHL xcl xSL xNM xty0 xsf "PrePressRoom" xnG xG m_Law_law q.1 q.2) = true := by decide +kernel
set_option maxRecDepth 100000 in
theorem k_Law_law39 : ((t_Law_law.getD 39 (0, [])).2.all fun q => xok xWL xHL xcl xSL xNM xty0 xsf "PrePressRoom" xnG xG m_Law_law q.1 q.2) = true := by decide +kernel
