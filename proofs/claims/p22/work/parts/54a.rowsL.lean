set_option maxRecDepth 20000 in
theorem wsL_law_ch1 : ∀ w ∈ wsL_law0_r1, w ∈ lw_tbl := fun w h => (goodIn_p wsL_law0_r1 [31, 34, 39] rfl (by decide +kernel) w h).1
set_option maxRecDepth 20000 in
theorem wsL_law_ch2 : ∀ w ∈ wsL_law0_r2, w ∈ lw_tbl := fun w h => (goodIn_p wsL_law0_r2 [45] rfl (by decide +kernel) w h).1
set_option maxRecDepth 20000 in
theorem wsL_law_ch3 : ∀ w ∈ wsL_law0_r3, w ∈ lw_tbl := fun w h => (goodIn_p wsL_law0_r3 [66, 90, 119] rfl (by decide +kernel) w h).1
set_option maxRecDepth 20000 in
theorem wsL_law_ch4 : ∀ w ∈ wsL_law0_r4, w ∈ lw_tbl := fun w h => (goodIn_p wsL_law0_r4 [489, 494] rfl (by decide +kernel) w h).1
set_option maxRecDepth 20000 in
theorem wsL_law_ch5 : ∀ w ∈ wsL_law0_r5, w ∈ lw_tbl := fun w h => (goodIn_p wsL_law0_r5 [485, 481, 529, 312] rfl (by decide +kernel) w h).1
set_option maxRecDepth 20000 in
theorem wsL_law_ch6 : ∀ w ∈ wsL_law0_r6, w ∈ lw_tbl := fun w h => (goodIn_p wsL_law0_r6 [534, 538, 543, 547, 553] rfl (by decide +kernel) w h).1
set_option maxRecDepth 20000 in
theorem wsL_law_ch7 : ∀ w ∈ wsL_law0_r7, w ∈ lw_tbl := fun w h => (goodIn_p wsL_law0_r7 [556, 560, 566, 570, 469] rfl (by decide +kernel) w h).1
set_option maxRecDepth 20000 in
theorem wsL_law_ch8 : ∀ w ∈ wsL_law0_r8, w ∈ lw_tbl := fun w h => (goodIn_p wsL_law0_r8 [474, 478, 289, 293] rfl (by decide +kernel) w h).1
set_option maxRecDepth 20000 in
theorem wsL_law_ch9 : ∀ w ∈ wsL_law0_r9, w ∈ lw_tbl := fun w h => (goodIn_p wsL_law0_r9 [333, 210, 282, 285, 337, 341] rfl (by decide +kernel) w h).1
set_option maxRecDepth 20000 in
theorem wsL_law_ch10 : ∀ w ∈ wsL_law0_r10, w ∈ lw_tbl := fun w h => (goodIn_p wsL_law0_r10 [346, 388, 393, 397, 375] rfl (by decide +kernel) w h).1
set_option maxRecDepth 20000 in
theorem wsL_law_ch11 : ∀ w ∈ wsL_law0_r11, w ∈ lw_tbl := fun w h => (goodIn_p wsL_law0_r11 [401, 405, 380, 409] rfl (by decide +kernel) w h).1
set_option maxRecDepth 20000 in
theorem wsL_law_ch12 : ∀ w ∈ wsL_law0_r12, w ∈ lw_tbl := fun w h => (goodIn_p wsL_law0_r12 [413, 365, 418, 422, 426] rfl (by decide +kernel) w h).1
set_option maxRecDepth 20000 in
theorem wsL_law_ch13 : ∀ w ∈ wsL_law0_r13, w ∈ lw_tbl := fun w h => (goodIn_p wsL_law0_r13 [431, 435, 446, 439, 443] rfl (by decide +kernel) w h).1
set_option maxRecDepth 20000 in
theorem wsL_law_ch14 : ∀ w ∈ wsL_law0_r14, w ∈ lw_tbl := fun w h => (goodIn_p wsL_law0_r14 [450, 454, 458, 462, 465, 351, 356] rfl (by decide +kernel) w h).1
