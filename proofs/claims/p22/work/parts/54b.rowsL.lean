set_option maxRecDepth 20000 in
theorem wsL_law_ch15 : ∀ w ∈ wsL_law0_r15, w ∈ lw_tbl := fun w h => (goodIn_p wsL_law0_r15 [361, 370, 384] rfl (by decide +kernel) w h).1
