set_option maxRecDepth 100000 in
theorem k_Law_law40 : ((t_Law_law.getD 40 (0, [])).2.all fun q => xok xWL xHL xcl xSL xNM xty0 xsf "PrePressRoom" xnG xG m_Law_law q.1 q.2) = true := by decide +kernel
set_option maxRecDepth 100000 in
theorem k_Law_law41 : ((t_Law_law.getD 41 (0, [])).2.all fun q => xok xWL xHL xcl xSL xNM xty0 xsf "PrePressRoom" xnG xG m_Law_law q.1 q.2) = true := by decide +kernel
set_option maxRecDepth 100000 in
theorem k_Law_law42 : ((t_Law_law.getD 42 (0, [])).2.all fun q => xok xWL xHL xcl xSL xNM xty0 xsf "PrePressRoom" xnG xG m_Law_law q.1 q.2) = true := by decide +kernel
set_option maxRecDepth 100000 in
theorem k_Law_law43 : ((t_Law_law.getD 43 (0, [])).2.all fun q => xok xWL xHL xcl xSL xNM xty0 xsf "PrePressRoom" xnG xG m_Law_law q.1 q.2) = true := by decide +kernel
set_option maxRecDepth 100000 in
theorem k_Law_law44 : ((t_Law_law.getD 44 (0, [])).2.all fun q => xok xWL xHL xcl xSL xNM xty0 xsf "PrePressRoom" xnG xG m_Law_law q.1 q.2) = true := by decide +kernel
set_option maxRecDepth 100000 in
theorem k_Law_law45 : ((t_Law_law.getD 45 (0, [])).2.all fun q => xok xWL xHL xcl xSL xNM xty0 xsf "PrePressRoom" xnG xG m_Law_law q.1 q.2) = true := by decide +kernel
set_option maxRecDepth 100000 in
theorem k_Law_law46 : ((t_Law_law.getD 46 (0, [])).2.all fun q => xok xWL xHL xcl xSL xNM xty0 xsf "PrePressRoom" xnG xG m_Law_law q.1 q.2) = true := by decide +kernel
set_option maxRecDepth 100000 in
theorem k_Law_law47 : ((t_Law_law.getD 47 (0, [])).2.all fun q => xok xWL xHL xcl xSL xNM xty0 xsf "PrePressRoom" xnG xG m_Law_law q.1 q.2) = true := by decide +kernel
set_option maxRecDepth 100000 in
theorem k_Law_law48 : ((t_Law_law.getD 48 (0, [])).2.all fun q => xok xWL xHL xcl xSL xNM xty0 xsf "PrePressRoom" xnG xG m_Law_law q.1 q.2) = true := by decide +kernel
set_option maxRecDepth 100000 in
theorem k_Law_law49 : ((t_Law_law.getD 49 (0, [])).2.all fun q => xok xWL xHL xcl xSL xNM xty0 xsf "PrePressRoom" xnG xG m_Law_law q.1 q.2) = true := by decide +kernel
set_option maxRecDepth 100000 in
theorem k_Law_law50 : ((t_Law_law.getD 50 (0, [])).2.all fun q => xok xWL xHL xcl xSL xNM xty0 xsf "PrePressRoom" xnG xG m_Law_law q.1 q.2) = true := by decide +kernel
set_option maxRecDepth 100000 in
theorem k_Law_law51 : ((t_Law_law.getD 51 (0, [])).2.all fun q => xok xWL xHL xcl xSL xNM xty0 xsf "PrePressRoom" xnG xG m_Law_law q.1 q.2) = true := by decide +kernel
set_option maxRecDepth 100000 in
theorem k_Law_law52 : ((t_Law_law.getD 52 (0, [])).2.all fun q => xok xWL xHL xcl xSL xNM xty0 xsf "PrePressRoom" xnG xG m_Law_law q.1 q.2) = true := by decide +kernel
set_option maxRecDepth 100000 in
theorem k_Law_law53 : ((t_Law_law.getD 53 (0, [])).2.all fun q => xok xWL xHL xcl xSL xNM xty0 xsf "PrePressRoom" xnG xG m_Law_law q.1 q.2) = true := by decide +kernel
set_option maxRecDepth 100000 in
theorem k_Law_law54 : ((t_Law_law.getD 54 (0, [])).2.all fun q => xok xWL xHL xcl xSL xNM xty0 xsf "PrePressRoom" xnG xG m_Law_law q.1 q.2) = true := by decide +kernel
set_option maxRecDepth 100000 in
theorem k_Law_law55 : ((t_Law_law.getD 55 (0, [])).2.all fun q => xok xWL xHL xcl xSL xNM xty0 xsf "PrePressRoom" xnG xG m_Law_law q.1 q.2) = true := by decide +kernel
set_option maxRecDepth 100000 in
theorem k_Law_law56 : ((t_Law_law.getD 56 (0, [])).2.all fun q => xok xWL xHL xcl xSL xNM xty0 xsf "PrePressRoom" xnG xG m_Law_law q.1 q.2) = true := by decide +kernel
set_option maxRecDepth 100000 in
theorem k_Law_law57 : ((t_Law_law.getD 57 (0, [])).2.all fun q => xok xWL xHL xcl xSL xNM xty0 xsf "PrePressRoom" xnG xG m_Law_law q.1 q.2) = true := by decide +kernel
set_option maxRecDepth 100000 in
theorem k_Law_law58 : ((t_Law_law.getD 58 (0, [])).2.all fun q => xok xWL xHL xcl xSL xNM xty0 xsf "PrePressRoom" xnG xG m_Law_law q.1 q.2) = true := by decide +kernel
theorem xall_cons {α : Type} {f : α → Bool} {c : α} {t : List α} (h : f c = true) (h1 : t.all f = true) : (c :: t).all f = true := by rw [List.all_cons, h, h1]; rfl
theorem k_Law_law : (t_Law_law.all fun c => c.2.all fun q => xok xWL xHL xcl xSL xNM xty0 xsf "PrePressRoom" xnG xG m_Law_law q.1 q.2) = true :=
  xall_cons k_Law_law0 ( xall_cons k_Law_law1 ( xall_cons k_Law_law2 ( xall_cons k_Law_law3 ( xall_cons k_Law_law4 ( xall_cons k_Law_law5 ( xall_cons k_Law_law6 ( xall_cons k_Law_law7 ( xall_cons k_Law_law8 ( xall_cons k_Law_law9 ( xall_cons k_Law_law10 ( xall_cons k_Law_law11 ( xall_cons k_Law_law12 ( xall_cons k_Law_law13 ( xall_cons k_Law_law14 ( xall_cons k_Law_law15 ( xall_cons k_Law_law16 ( xall_cons k_Law_law17 ( xall_cons k_Law_law18 ( xall_cons k_Law_law19 ( xall_cons k_Law_law20 ( xall_cons k_Law_law21 ( xall_cons k_Law_law22 ( xall_cons k_Law_law23 ( xall_cons k_Law_law24 ( xall_cons k_Law_law25 ( xall_cons k_Law_law26 ( xall_cons k_Law_law27 ( xall_cons k_Law_law28 ( xall_cons k_Law_law29 ( xall_cons k_Law_law30 ( xall_cons k_Law_law31 ( xall_cons k_Law_law32 ( xall_cons k_Law_law33 ( xall_cons k_Law_law34 ( xall_cons k_Law_law35 ( xall_cons k_Law_law36 ( xall_cons k_Law_law37 ( xall_cons k_Law_law38 ( xall_cons k_Law_law39 ( xall_cons k_Law_law40 ( xall_cons k_Law_law41 ( xall_cons k_Law_law42 ( xall_cons k_Law_law43 ( xall_cons k_Law_law44 ( xall_cons k_Law_law45 ( xall_cons k_Law_law46 ( xall_cons k_Law_law47 ( xall_cons k_Law_law48 ( xall_cons k_Law_law49 ( xall_cons k_Law_law50 ( xall_cons k_Law_law51 ( xall_cons k_Law_law52 ( xall_cons k_Law_law53 ( xall_cons k_Law_law54 ( xall_cons k_Law_law55 ( xall_cons k_Law_law56 ( xall_cons k_Law_law57 ( xall_cons k_Law_law58 (rfl)))))))))))))))))))))))))))))))))))))))))))))))))))))))))))
