set_option maxRecDepth 20000 in
theorem in_wsL_law0_r9 : ∀ w ∈ wsL_law0_r9, w ∈ lw_tbl := by decide +kernel
set_option maxRecDepth 20000 in
theorem in_wsL_law0_r10 : ∀ w ∈ wsL_law0_r10, w ∈ lw_tbl := by decide +kernel
set_option maxRecDepth 20000 in
theorem in_wsL_law0_r11 : ∀ w ∈ wsL_law0_r11, w ∈ lw_tbl := by decide +kernel
set_option maxRecDepth 20000 in
theorem in_wsL_law0_r12 : ∀ w ∈ wsL_law0_r12, w ∈ lw_tbl := by decide +kernel
set_option maxRecDepth 20000 in
theorem in_wsL_law0_r13 : ∀ w ∈ wsL_law0_r13, w ∈ lw_tbl := by decide +kernel
set_option maxRecDepth 20000 in
theorem in_wsL_law0_r14 : ∀ w ∈ wsL_law0_r14, w ∈ lw_tbl := by decide +kernel
set_option maxRecDepth 20000 in
theorem in_wsL_law0_r15 : ∀ w ∈ wsL_law0_r15, w ∈ lw_tbl := by decide +kernel
set_option maxRecDepth 20000 in
theorem in_wsL_law0_r16 : ∀ w ∈ wsL_law0_r16, w ∈ lw_tbl := by decide +kernel
