set_option maxRecDepth 20000 in
theorem wsL_law_ch15 : ∀ w ∈ wsL_law0_r15, w ∈ lw_tbl := fun w h => (goodIn_p wsL_law0_r15 [828, 531, 294, 832, 836] rfl (by decide +kernel) w h).1
set_option maxRecDepth 20000 in
theorem wsL_law_ch16 : ∀ w ∈ wsL_law0_r16, w ∈ lw_tbl := fun w h => (goodIn_p wsL_law0_r16 [540, 262, 285, 840] rfl (by decide +kernel) w h).1
set_option maxRecDepth 20000 in
theorem wsL_law_ch17 : ∀ w ∈ wsL_law0_r17, w ∈ lw_tbl := fun w h => (goodIn_p wsL_law0_r17 [844, 848, 548, 553, 557] rfl (by decide +kernel) w h).1
set_option maxRecDepth 20000 in
theorem wsL_law_ch18 : ∀ w ∈ wsL_law0_r18, w ∈ lw_tbl := fun w h => (goodIn_p wsL_law0_r18 [561, 565, 569, 574] rfl (by decide +kernel) w h).1
set_option maxRecDepth 20000 in
theorem wsL_law_ch19 : ∀ w ∈ wsL_law0_r19, w ∈ lw_tbl := fun w h => (goodIn_p wsL_law0_r19 [578, 582, 587, 591, 602] rfl (by decide +kernel) w h).1
set_option maxRecDepth 20000 in
theorem wsL_law_ch20 : ∀ w ∈ wsL_law0_r20, w ∈ lw_tbl := fun w h => (goodIn_p wsL_law0_r20 [595, 599, 606, 610, 614, 618, 621] rfl (by decide +kernel) w h).1
set_option maxRecDepth 20000 in
theorem wsL_law_ch21 : ∀ w ∈ wsL_law0_r21, w ∈ lw_tbl := fun w h => (goodIn_p wsL_law0_r21 [852, 856, 860, 864, 868] rfl (by decide +kernel) w h).1
set_option maxRecDepth 20000 in
theorem wsL_law_ch22 : ∀ w ∈ wsL_law0_r22, w ∈ lw_tbl := fun w h => (goodIn_p wsL_law0_r22 [873, 877, 881, 628, 252] rfl (by decide +kernel) w h).1
set_option maxRecDepth 20000 in
theorem wsL_law_ch23 : ∀ w ∈ wsL_law0_r23, w ∈ lw_tbl := fun w h => (goodIn_p wsL_law0_r23 [238, 886, 890, 636] rfl (by decide +kernel) w h).1
set_option maxRecDepth 20000 in
theorem wsL_law_ch24 : ∀ w ∈ wsL_law0_r24, w ∈ lw_tbl := fun w h => (goodIn_p wsL_law0_r24 [894, 645, 651, 655, 659] rfl (by decide +kernel) w h).1
set_option maxRecDepth 20000 in
theorem wsL_law_ch25 : ∀ w ∈ wsL_law0_r25, w ∈ lw_tbl := fun w h => (goodIn_p wsL_law0_r25 [664, 669, 898, 902, 677] rfl (by decide +kernel) w h).1
set_option maxRecDepth 20000 in
theorem wsL_law_ch26 : ∀ w ∈ wsL_law0_r26, w ∈ lw_tbl := fun w h => (goodIn_p wsL_law0_r26 [906, 684, 689, 910, 234] rfl (by decide +kernel) w h).1
set_option maxRecDepth 20000 in
theorem wsL_law_ch27 : ∀ w ∈ wsL_law0_r27, w ∈ lw_tbl := fun w h => (goodIn_p wsL_law0_r27 [242, 914, 246, 257, 289] rfl (by decide +kernel) w h).1
set_option maxRecDepth 20000 in
theorem wsL_law_ch28 : ∀ w ∈ wsL_law0_r28, w ∈ lw_tbl := fun w h => (goodIn_p wsL_law0_r28 [302, 918] rfl (by decide +kernel) w h).1
