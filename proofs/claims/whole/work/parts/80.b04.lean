set_option maxRecDepth 20000 in
theorem in_wsL_law0_r25 : ∀ w ∈ wsL_law0_r25, w ∈ lw_tbl := by decide +kernel
set_option maxRecDepth 20000 in
theorem in_wsL_law0_r26 : ∀ w ∈ wsL_law0_r26, w ∈ lw_tbl := by decide +kernel
set_option maxRecDepth 20000 in
theorem in_wsL_law0_r27 : ∀ w ∈ wsL_law0_r27, w ∈ lw_tbl := by decide +kernel
set_option maxRecDepth 20000 in
theorem in_wsL_law0_r28 : ∀ w ∈ wsL_law0_r28, w ∈ lw_tbl := by decide +kernel
set_option maxRecDepth 20000 in
theorem in_wsL_law0_r29 : ∀ w ∈ wsL_law0_r29, w ∈ lw_tbl := by decide +kernel
set_option maxRecDepth 20000 in
theorem in_wsL_law0_r30 : ∀ w ∈ wsL_law0_r30, w ∈ lw_tbl := by decide +kernel
set_option maxRecDepth 20000 in
theorem in_wsL_law0_r31 : ∀ w ∈ wsL_law0_r31, w ∈ lw_tbl := by decide +kernel
set_option maxRecDepth 20000 in
theorem in_wsL_law0_r32 : ∀ w ∈ wsL_law0_r32, w ∈ lw_tbl := by decide +kernel
