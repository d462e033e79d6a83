set_option maxRecDepth 20000 in
theorem ggL_law_X5_init : GoodIn wsL_law wsX5_init := goodIn_r _ [9, 10, 11, 12, 13, 14, 15, 16, 17, 18, 19, 20, 21, 22, 23, 24, 25, 26, 27, 28, 29, 30, 31, 32, 33, 34, 35, 36, 37, 38, 39, 40, 41, 42, 43, 44, 45, 46, 47, 48, 49, 50, 51, 52, 53, 54, 55, 56, 57, 58, 59, 60, 61, 62, 63, 64, 65, 66, 67, 68, 69, 70, 71, 72, 73, 74, 75, 76, 77, 78, 677, 678, 679, 680, 681, 682, 683, 684, 685, 686, 660, 661, 687, 688, 689, 690, 691, 692, 693, 694, 695, 696, 697, 698, 699, 700, 701, 702, 703, 704, 705, 706, 707, 708] (by decide +kernel) (by decide +kernel)
set_option maxRecDepth 20000 in
theorem gL_law_X5_init : GoodIn wsL_law (wsX5_init) := ggL_law_X5_init
set_option maxRecDepth 20000 in
theorem ggL_law_X6_init : GoodIn wsL_law wsX6_init := goodIn_r _ [81, 82, 11, 12, 83, 39, 84, 85, 86, 87, 88, 89, 90, 91, 41, 92, 662, 663, 664, 665, 666, 667, 668, 669, 670, 671, 672, 673, 674, 675, 676] (by decide +kernel) (by decide +kernel)
set_option maxRecDepth 20000 in
theorem gL_law_X6_init : GoodIn wsL_law (wsX6_init) := ggL_law_X6_init
set_option maxRecDepth 20000 in
theorem ggL_law_L_beginTides : GoodIn wsL_law wsL_beginTides := goodIn_ca (goodIn_r _ [96, 97, 98, 99, 100, 2, 101, 102, 103, 16, 104, 105, 106, 107, 108, 109, 110, 111, 23, 112, 47, 48, 660, 661, 677, 678, 679, 680, 681, 682, 683, 684, 685, 686, 687, 688] (by decide +kernel) (by decide +kernel)) (goodIn_sub (fun _ h => List.mem_append_left _ (List.mem_append_left _ (List.mem_append_right _ h))) (by decide +kernel))
set_option maxRecDepth 20000 in
theorem gL_law_L_beginTides : GoodIn wsL_law (va_wsS RL 73 yL_beginTides wsL_beginTides) := goodIn_app (goodIn_of _ (by decide +kernel)) ggL_law_L_beginTides
set_option maxRecDepth 20000 in
theorem ggL_law_X6_beginTides : GoodIn wsL_law wsX6_beginTides := goodIn_r _ [116, 117, 83, 84, 118, 119, 5, 120, 121, 122, 123, 124, 125, 126, 127, 662, 663, 664, 665, 666, 667, 668, 669, 670, 671, 672, 673, 674, 675, 676] (by decide +kernel) (by decide +kernel)
set_option maxRecDepth 20000 in
theorem gL_law_X6_beginTides : GoodIn wsL_law (wsV RL 78 RX6 yX6_beginTides wsX6_beginTides) := goodIn_app (goodIn_of _ (by decide +kernel)) ggL_law_X6_beginTides
set_option maxRecDepth 20000 in
theorem ggL_law_X6_thrown : GoodIn wsL_law wsX6_thrown := goodIn_r _ [131, 117, 662, 663, 664, 665, 666, 667, 668, 669, 670, 671, 672, 673, 674, 675, 676] (by decide +kernel) (by decide +kernel)
set_option maxRecDepth 20000 in
theorem gL_law_X6_thrown : GoodIn wsL_law (wsV RL 79 RX6 yX6_thrown wsX6_thrown) := goodIn_app (goodIn_of _ (by decide +kernel)) ggL_law_X6_thrown
