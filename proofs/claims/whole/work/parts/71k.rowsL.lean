set_option maxRecDepth 20000 in
theorem ggL_law_L_reaches : GoodIn wsL_law wsL_reaches := goodIn_ca (goodIn_r _ [606, 228, 607, 608, 609, 2, 610, 233, 234, 16, 212, 180, 237, 238, 239, 31, 240, 218, 271, 272, 273, 27, 274, 186, 547, 421, 422, 423, 62, 351, 611, 612, 613, 15, 614, 24, 279, 28, 280, 158, 159, 23, 160, 48, 47, 161, 162, 163, 164, 374, 282, 283, 284, 56, 660, 661, 677, 678, 679, 680, 681, 682, 683, 684, 685, 686, 693, 694, 695, 696, 697, 698, 689, 690, 691, 692, 687, 688] (by decide +kernel) (by decide +kernel)) (goodIn_sub (fun _ h => List.mem_append_right _ h) (by decide +kernel))
set_option maxRecDepth 20000 in
theorem gL_law_L_reaches : GoodIn wsL_law (va_wsS RL 130 yL_reaches wsL_reaches) := goodIn_app (goodIn_of _ (by decide +kernel)) ggL_law_L_reaches
set_option maxRecDepth 20000 in
theorem ggL_law_X6_reaches : GoodIn wsL_law wsX6_reaches := goodIn_r _ [618, 117, 191, 299, 251, 252, 253, 5, 254, 223, 121, 122, 123, 124, 125, 126, 127, 169, 170, 171, 172, 84, 83, 312, 313, 314, 315, 85, 356, 357, 358, 359, 86, 662, 663, 664, 665, 666, 667, 668, 669, 670, 671, 672, 673, 674, 675, 676] (by decide +kernel) (by decide +kernel)
set_option maxRecDepth 20000 in
theorem gL_law_X6_reaches : GoodIn wsL_law (wsV RL 132 RX6 yX6_reaches wsX6_reaches) := goodIn_app (goodIn_of _ (by decide +kernel)) ggL_law_X6_reaches
set_option maxRecDepth 20000 in
theorem ggL_law_X5_barnacles : GoodIn wsL_law wsX5_barnacles := goodIn_r _ [622, 16, 235, 583, 529, 530, 35, 531, 245, 73, 623, 624, 625, 626, 74, 660, 661, 677, 678, 679, 680, 681, 682, 683, 684, 685, 686, 699, 700, 701, 702, 703, 704, 705, 706, 707, 708] (by decide +kernel) (by decide +kernel)
set_option maxRecDepth 20000 in
theorem gL_law_X5_barnacles : GoodIn wsL_law (wsV RL 133 RX5 yX5_barnacles wsX5_barnacles) := goodIn_app (goodIn_of _ (by decide +kernel)) ggL_law_X5_barnacles
set_option maxRecDepth 20000 in
theorem ggL_law_X6_barnacles : GoodIn wsL_law wsX6_barnacles := goodIn_r _ [630, 117, 191, 387, 388, 389, 5, 390, 250, 304, 305, 306, 307, 308, 309, 310, 311, 87, 484, 485, 486, 487, 662, 663, 664, 665, 666, 667, 668, 669, 670, 671, 672, 673, 674, 675, 676] (by decide +kernel) (by decide +kernel)
set_option maxRecDepth 20000 in
theorem gL_law_X6_barnacles : GoodIn wsL_law (wsV RL 137 RX6 yX6_barnacles wsX6_barnacles) := goodIn_app (goodIn_of _ (by decide +kernel)) ggL_law_X6_barnacles
set_option maxRecDepth 20000 in
theorem ggL_law_X5_digest : GoodIn wsL_law wsX5_digest := goodIn_r _ [634, 635, 636, 16, 104, 180, 181, 212, 235, 521, 522, 523, 15, 524, 279, 28, 525, 32, 526, 36, 407, 24, 527, 37, 38, 528, 529, 530, 35, 531, 245, 73, 637, 638, 639, 23, 640, 48, 641, 47, 367, 368, 369, 370, 371, 372, 290, 294, 272, 273, 27, 274, 186, 373, 276, 277, 278, 280, 158, 159, 160, 161, 162, 163, 164, 374, 282, 283, 284, 56, 375, 376, 377, 378, 75, 74, 642, 643, 644, 31, 645, 218, 646, 647, 348, 349, 350, 62, 63, 64, 65, 66, 351, 238, 239, 240, 648, 649, 650, 651, 652, 653, 332, 333, 334, 70, 71, 72, 76, 77, 78, 335, 268, 269, 270, 660, 661, 677, 678, 679, 680, 681, 682, 683, 684, 685, 686, 689, 690, 691, 692, 693, 694, 695, 696, 697, 698, 699, 700, 701, 702, 703, 704, 705, 706, 707, 708, 687, 688] (by decide +kernel) (by decide +kernel)
set_option maxRecDepth 20000 in
theorem gL_law_X5_digest : GoodIn wsL_law (wsV RL 138 RX5 yX5_digest wsX5_digest) := goodIn_app (goodIn_of _ (by decide +kernel)) ggL_law_X5_digest
