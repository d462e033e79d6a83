set_option maxRecDepth 20000 in
theorem wsL_law_ch1 : ∀ w ∈ wsL_law0_r1, w ∈ lw_tbl := fun w h => (goodIn_p wsL_law0_r1 [53, 56, 61] rfl (by decide +kernel) w h).1
set_option maxRecDepth 20000 in
theorem wsL_law_ch2 : ∀ w ∈ wsL_law0_r2, w ∈ lw_tbl := fun w h => (goodIn_p wsL_law0_r2 [67] rfl (by decide +kernel) w h).1
set_option maxRecDepth 20000 in
theorem wsL_law_ch3 : ∀ w ∈ wsL_law0_r3, w ∈ lw_tbl := fun w h => (goodIn_p wsL_law0_r3 [88, 112, 141] rfl (by decide +kernel) w h).1
set_option maxRecDepth 20000 in
theorem wsL_law_ch4 : ∀ w ∈ wsL_law0_r4, w ∈ lw_tbl := fun w h => (goodIn_p wsL_law0_r4 [694] rfl (by decide +kernel) w h).1
set_option maxRecDepth 20000 in
theorem wsL_law_ch5 : ∀ w ∈ wsL_law0_r5, w ∈ lw_tbl := fun w h => (goodIn_p wsL_law0_r5 [319, 322, 394, 749] rfl (by decide +kernel) w h).1
set_option maxRecDepth 20000 in
theorem wsL_law_ch6 : ∀ w ∈ wsL_law0_r6, w ∈ lw_tbl := fun w h => (goodIn_p wsL_law0_r6 [752, 755, 759, 745, 402] rfl (by decide +kernel) w h).1
set_option maxRecDepth 20000 in
theorem wsL_law_ch7 : ∀ w ∈ wsL_law0_r7, w ∈ lw_tbl := fun w h => (goodIn_p wsL_law0_r7 [422, 763, 429, 274, 277] rfl (by decide +kernel) w h).1
set_option maxRecDepth 20000 in
theorem wsL_law_ch8 : ∀ w ∈ wsL_law0_r8, w ∈ lw_tbl := fun w h => (goodIn_p wsL_law0_r8 [767, 771, 438, 444, 775] rfl (by decide +kernel) w h).1
set_option maxRecDepth 20000 in
theorem wsL_law_ch9 : ∀ w ∈ wsL_law0_r9, w ∈ lw_tbl := fun w h => (goodIn_p wsL_law0_r9 [451, 779, 459] rfl (by decide +kernel) w h).1
set_option maxRecDepth 20000 in
theorem wsL_law_ch10 : ∀ w ∈ wsL_law0_r10, w ∈ lw_tbl := fun w h => (goodIn_p wsL_law0_r10 [465, 783, 473] rfl (by decide +kernel) w h).1
set_option maxRecDepth 20000 in
theorem wsL_law_ch11 : ∀ w ∈ wsL_law0_r11, w ∈ lw_tbl := fun w h => (goodIn_p wsL_law0_r11 [298, 496, 788, 792, 796] rfl (by decide +kernel) w h).1
set_option maxRecDepth 20000 in
theorem wsL_law_ch12 : ∀ w ∈ wsL_law0_r12, w ∈ lw_tbl := fun w h => (goodIn_p wsL_law0_r12 [503, 311, 266, 270, 281] rfl (by decide +kernel) w h).1
set_option maxRecDepth 20000 in
theorem wsL_law_ch13 : ∀ w ∈ wsL_law0_r13, w ∈ lw_tbl := fun w h => (goodIn_p wsL_law0_r13 [514, 800, 804, 808, 812] rfl (by decide +kernel) w h).1
set_option maxRecDepth 20000 in
theorem wsL_law_ch14 : ∀ w ∈ wsL_law0_r14, w ∈ lw_tbl := fun w h => (goodIn_p wsL_law0_r14 [816, 820, 824, 522, 307] rfl (by decide +kernel) w h).1
