theorem h_Law_law : xmok xWL xcl m_Law_law [0, 42] = true := by
  unfold xmok
  have e : xin xWL 0 (.code (xnm m_Law_law) (xby m_Law_law) (xml m_Law_law) (xrt m_Law_law)) = true := decide_eq_true rfl
  have e1 : xin xWL 42 (.initialized (xnm m_Law_law).cls) = true := by decide +kernel
  have e2 : (plainFor (xnm m_Law_law) && decide ((xnm m_Law_law).cls ≠ "java/lang/invoke/MethodHandle") && decide ((xnm m_Law_law).cls ≠ "java/lang/invoke/VarHandle")) = true := by decide +kernel
  show ((plainFor (xnm m_Law_law) && decide ((xnm m_Law_law).cls ≠ "java/lang/invoke/MethodHandle") && decide ((xnm m_Law_law).cls ≠ "java/lang/invoke/VarHandle")) && xin xWL 0 (.code (xnm m_Law_law) (xby m_Law_law) (xml m_Law_law) (xrt m_Law_law)) && xin xWL 42 (.initialized (xnm m_Law_law).cls) && true) = true
  rw [e, e1, e2]
  rfl
set_option maxRecDepth 100000 in
theorem k_Law_law0 : ((t_Law_law.getD 0 (0, [])).2.all fun q => xok xWL xHL xcl xSL xNM xty0 xsf "PrePressRoom" xnG xG m_Law_law q.1 q.2) = true := by decide +kernel
set_option maxRecDepth 100000 in
theorem k_Law_law1 : ((t_Law_law.getD 1 (0, [])).2.all fun q => xok xWL xHL xcl xSL xNM xty0 xsf "PrePressRoom" xnG xG m_Law_law q.1 q.2) = true := by decide +kernel
set_option maxRecDepth 100000 in
theorem k_Law_law2 : ((t_Law_law.getD 2 (0, [])).2.all fun q => xok xWL xHL xcl xSL xNM xty0 xsf "PrePressRoom" xnG xG m_Law_law q.1 q.2) = true := by decide +kernel
set_option maxRecDepth 100000 in
theorem k_Law_law3 : ((t_Law_law.getD 3 (0, [])).2.all fun q => xok xWL xHL xcl xSL xNM xty0 xsf "PrePressRoom" xnG xG m_Law_law q.1 q.2) = true := by decide +kernel
set_option maxRecDepth 100000 in
theorem k_Law_law4 : ((t_Law_law.getD 4 (0, [])).2.all fun q => xok xWL xHL xcl xSL xNM xty0 xsf "PrePressRoom" xnG xG m_Law_law q.1 q.2) = true := by decide +kernel
set_option maxRecDepth 100000 in
theorem k_Law_law5 : ((t_Law_law.getD 5 (0, [])).2.all fun q => xok xWL xHL xcl xSL xNM xty0 xsf "PrePressRoom" xnG xG m_Law_law q.1 q.2) = true := by decide +kernel
set_option maxRecDepth 100000 in
theorem k_Law_law6 : ((t_Law_law.getD 6 (0, [])).2.all fun q => xok xWL xHL xcl xSL xNM xty0 xsf "PrePressRoom" xnG xG m_Law_law q.1 q.2) = true := by decide +kernel
set_option maxRecDepth 100000 in
theorem k_Law_law7 : ((t_Law_law.getD 7 (0, [])).2.all fun q => xok xWL xHL xcl xSL xNM xty0 xsf "PrePressRoom" xnG xG m_Law_law q.1 q.2) = true := by decide +kernel
set_option maxRecDepth 100000 in
theorem k_Law_law8 : ((t_Law_law.getD 8 (0, [])).2.all fun q => xok xWL xHL xcl xSL xNM xty0 xsf "PrePressRoom" xnG xG m_Law_law q.1 q.2) = true := by decide +kernel
set_option maxRecDepth 100000 in
theorem k_Law_law9 : ((t_Law_law.getD 9 (0, [])).2.all fun q => xok xWL xHL xcl xSL xNM xty0 xsf "PrePressRoom" xnG xG m_Law_law q.1 q.2) = true := by decide +kernel
set_option maxRecDepth 100000 in
theorem k_Law_law10 : ((t_Law_law.getD 10 (0, [])).2.all fun q => xok xWL xHL xcl xSL xNM xty0 xsf "PrePressRoom" xnG xG m_Law_law q.1 q.2) = true := by decide +kernel
set_option maxRecDepth 100000 in
theorem k_Law_law11 : ((t_Law_law.getD 11 (0, [])).2.all fun q => xok xWL xHL xcl xSL xNM xty0 xsf "PrePressRoom" xnG xG m_Law_law q.1 q.2) = true := by decide +kernel
set_option maxRecDepth 100000 in
theorem k_Law_law12 : ((t_Law_law.getD 12 (0, [])).2.all fun q => xok xWL xHL xcl xSL xNM xty0 xsf "PrePressRoom" xnG xG m_Law_law q.1 q.2) = true := by decide +kernel
set_option maxRecDepth 100000 in
theorem k_Law_law13 : ((t_Law_law.getD 13 (0, [])).2.all fun q => xok xWL xHL xcl xSL xNM xty0 xsf "PrePressRoom" xnG xG m_Law_law q.1 q.2) = true := by decide +kernel
set_option maxRecDepth 100000 in
theorem k_Law_law14 : ((t_Law_law.getD 14 (0, [])).2.all fun q => xok xWL xHL xcl xSL xNM xty0 xsf "PrePressRoom" xnG xG m_Law_law q.1 q.2) = true := by decide +kernel
set_option maxRecDepth 100000 in
theorem k_Law_law15 : ((t_Law_law.getD 15 (0, [])).2.all fun q => xok xWL xHL xcl xSL xNM xty0 xsf "PrePressRoom" xnG xG m_Law_law q.1 q.2) = true := by decide +kernel
set_option maxRecDepth 100000 in
theorem k_Law_law16 : ((t_Law_law.getD 16 (0, [])).2.all fun q => xok xWL xHL xcl xSL xNM xty0 xsf "PrePressRoom" xnG xG m_Law_law q.1 q.2) = true := by decide +kernel
set_option maxRecDepth 100000 in
theorem k_Law_law17 : ((t_Law_law.getD 17 (0, [])).2.all fun q => xok xWL xHL xcl xSL xNM xty0 xsf "PrePressRoom" xnG xG m_Law_law q.1 q.2) = true := by decide +kernel
set_option maxRecDepth 100000 in
theorem k_Law_law18 : ((t_Law_law.getD 18 (0, [])).2.all fun q => xok xWL xHL xcl xSL xNM xty0 xsf "PrePressRoom" xnG xG m_Law_law q.1 q.2) = true := by decide +kernel
set_option maxRecDepth 100000 in
theorem k_Law_law19 : ((t_Law_law.getD 19 (0, [])).2.all fun q => xok xWL xHL xcl xSL xNM xty0 xsf "PrePressRoom" xnG xG m_Law_law q.1 q.2) = true := by decide +kernel
