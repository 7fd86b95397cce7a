/-! the law: all its words -/
set_option maxRecDepth 20000 in
theorem lin_X5 : ∀ w ∈ wsX50, w ∈ lw_tbl := by decide +kernel
set_option maxRecDepth 20000 in
theorem lin_X6 : ∀ w ∈ wsX60, w ∈ lw_tbl := by decide +kernel
set_option maxRecDepth 20000 in
theorem lin_X0 : ∀ w ∈ wsX00, w ∈ lw_tbl := by decide +kernel
set_option maxRecDepth 20000 in
theorem lin_X3 : ∀ w ∈ wsX30, w ∈ lw_tbl := by decide +kernel
set_option maxRecDepth 20000 in
theorem lin_X1 : ∀ w ∈ wsX10, w ∈ lw_tbl := by decide +kernel
set_option maxRecDepth 20000 in
theorem lin_X4 : ∀ w ∈ wsX40, w ∈ lw_tbl := by decide +kernel
theorem lin_all : ∀ w ∈ wsL_law, w ∈ lw_tbl := by
  intro w hw
  unfold wsL_law at hw
  simp only [List.mem_append, List.not_mem_nil, or_false] at hw
  rcases hw with ((((((hw | hw) | hw) | hw) | hw) | hw) | hw)
  · rcases hw with hw | hw | hw | hw | hw | hw | hw | hw | hw | hw | hw | hw | hw | hw | hw | hw | hw | hw | hw | hw | hw | hw | hw | hw | hw | hw | hw | hw | hw
    · exact lin_r1 w hw
    · exact lin_r2 w hw
    · exact lin_r3 w hw
    · exact lin_r4 w hw
    · exact lin_r5 w hw
    · exact lin_r6 w hw
    · exact lin_r7 w hw
    · exact lin_r8 w hw
    · exact lin_r9 w hw
    · exact lin_r10 w hw
    · exact lin_r11 w hw
    · exact lin_r12 w hw
    · exact lin_r13 w hw
    · exact lin_r14 w hw
    · exact lin_r15 w hw
    · exact lin_r16 w hw
    · exact lin_r17 w hw
    · exact lin_r18 w hw
    · exact lin_r19 w hw
    · exact lin_r20 w hw
    · exact lin_r21 w hw
    · exact lin_r22 w hw
    · exact lin_r23 w hw
    · exact lin_r24 w hw
    · exact lin_r25 w hw
    · exact lin_r26 w hw
    · exact lin_r27 w hw
    · exact lin_r28 w hw
    · exact lin_r29 w hw
  · exact lin_X5 w hw
  · exact lin_X6 w hw
  · exact lin_X0 w hw
  · exact lin_X3 w hw
  · exact lin_X1 w hw
  · exact lin_X4 w hw
