set_option maxRecDepth 20000 in
theorem ggL_law_X6_letter : GoodIn wsL_law wsX6_letter := goodIn_r _ [339, 117, 300, 301, 302, 5, 303, 250, 121, 122, 123, 308, 309, 310, 311, 87, 124, 125, 126, 127, 662, 663, 664, 665, 666, 667, 668, 669, 670, 671, 672, 673, 674, 675, 676] (by decide +kernel) (by decide +kernel)
set_option maxRecDepth 20000 in
theorem gL_law_X6_letter : GoodIn wsL_law (wsV RL 108 RX6 yX6_letter wsX6_letter) := goodIn_app (goodIn_of _ (by decide +kernel)) ggL_law_X6_letter
set_option maxRecDepth 20000 in
theorem ggL_law_L_drowned : GoodIn wsL_law wsL_drowned := goodIn_ca (goodIn_r _ [342, 228, 343, 344, 345, 2, 346, 233, 234, 16, 212, 237, 238, 239, 31, 240, 218, 106, 107, 108, 347, 348, 349, 350, 62, 63, 64, 65, 66, 351, 660, 661, 677, 678, 679, 680, 681, 682, 683, 684, 685, 686, 693, 694, 695, 696, 697, 698] (by decide +kernel) (by decide +kernel)) (goodIn_sub (fun _ h => List.mem_append_right _ h) (by decide +kernel))
set_option maxRecDepth 20000 in
theorem gL_law_L_drowned : GoodIn wsL_law (va_wsS RL 109 yL_drowned wsL_drowned) := goodIn_app (goodIn_of _ (by decide +kernel)) ggL_law_L_drowned
set_option maxRecDepth 20000 in
theorem ggL_law_X6_drowned : GoodIn wsL_law wsX6_drowned := goodIn_r _ [355, 117, 251, 252, 253, 5, 254, 223, 121, 122, 123, 356, 357, 358, 359, 86, 124, 125, 126, 127, 662, 663, 664, 665, 666, 667, 668, 669, 670, 671, 672, 673, 674, 675, 676] (by decide +kernel) (by decide +kernel)
set_option maxRecDepth 20000 in
theorem gL_law_X6_drowned : GoodIn wsL_law (wsV RL 111 RX6 yX6_drowned wsX6_drowned) := goodIn_app (goodIn_of _ (by decide +kernel)) ggL_law_X6_drowned
set_option maxRecDepth 20000 in
theorem ggL_law_L_bin : GoodIn wsL_law wsL_bin := goodIn_ca (goodIn_r _ [362, 228, 363, 364, 365, 2, 366, 233, 234, 16, 180, 271, 272, 273, 27, 274, 186, 106, 107, 108, 367, 368, 369, 15, 370, 28, 371, 372, 290, 36, 294, 373, 276, 277, 278, 24, 279, 280, 158, 159, 23, 160, 48, 47, 161, 162, 163, 164, 374, 282, 283, 284, 56, 375, 376, 377, 35, 378, 245, 73, 75, 74, 660, 661, 677, 678, 679, 680, 681, 682, 683, 684, 685, 686, 689, 690, 691, 692, 687, 688, 699, 700, 701, 702, 703, 704, 705, 706, 707, 708] (by decide +kernel) (by decide +kernel)) (goodIn_sub (fun _ h => List.mem_append_right _ h) (by decide +kernel))
set_option maxRecDepth 20000 in
theorem gL_law_L_bin : GoodIn wsL_law (va_wsS RL 112 yL_bin wsL_bin) := goodIn_app (goodIn_of _ (by decide +kernel)) ggL_law_L_bin
set_option maxRecDepth 20000 in
theorem ggL_law_X6_bin : GoodIn wsL_law wsX6_bin := goodIn_r _ [382, 117, 191, 121, 122, 5, 123, 383, 384, 385, 386, 85, 299, 387, 388, 389, 390, 250, 304, 305, 306, 307, 308, 309, 310, 311, 87, 169, 170, 171, 172, 84, 83, 312, 313, 314, 315, 124, 125, 126, 127, 662, 663, 664, 665, 666, 667, 668, 669, 670, 671, 672, 673, 674, 675, 676] (by decide +kernel) (by decide +kernel)
set_option maxRecDepth 20000 in
theorem gL_law_X6_bin : GoodIn wsL_law (wsV RL 114 RX6 yX6_bin wsX6_bin) := goodIn_app (goodIn_of _ (by decide +kernel)) ggL_law_X6_bin
