set_option maxRecDepth 100000 in
theorem lin_r15 : ∀ w ∈ wsL_law0_r15, w ∈ lw_tbl := by decide +kernel
set_option maxRecDepth 100000 in
theorem lin_r16 : ∀ w ∈ wsL_law0_r16, w ∈ lw_tbl := by decide +kernel
set_option maxRecDepth 100000 in
theorem lin_r17 : ∀ w ∈ wsL_law0_r17, w ∈ lw_tbl := by decide +kernel
set_option maxRecDepth 100000 in
theorem lin_r18 : ∀ w ∈ wsL_law0_r18, w ∈ lw_tbl := by decide +kernel
set_option maxRecDepth 100000 in
theorem lin_r19 : ∀ w ∈ wsL_law0_r19, w ∈ lw_tbl := by decide +kernel
set_option maxRecDepth 100000 in
theorem lin_r20 : ∀ w ∈ wsL_law0_r20, w ∈ lw_tbl := by decide +kernel
set_option maxRecDepth 100000 in
theorem lin_r21 : ∀ w ∈ wsL_law0_r21, w ∈ lw_tbl := by decide +kernel
set_option maxRecDepth 100000 in
theorem lin_r22 : ∀ w ∈ wsL_law0_r22, w ∈ lw_tbl := by decide +kernel
set_option maxRecDepth 100000 in
theorem lin_r23 : ∀ w ∈ wsL_law0_r23, w ∈ lw_tbl := by decide +kernel
set_option maxRecDepth 100000 in
theorem lin_r24 : ∀ w ∈ wsL_law0_r24, w ∈ lw_tbl := by decide +kernel
set_option maxRecDepth 100000 in
theorem lin_r25 : ∀ w ∈ wsL_law0_r25, w ∈ lw_tbl := by decide +kernel
set_option maxRecDepth 100000 in
theorem lin_r26 : ∀ w ∈ wsL_law0_r26, w ∈ lw_tbl := by decide +kernel
set_option maxRecDepth 100000 in
theorem lin_r27 : ∀ w ∈ wsL_law0_r27, w ∈ lw_tbl := by decide +kernel
