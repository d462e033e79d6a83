set_option maxRecDepth 20000 in
theorem ggL_law_L_bring : GoodIn wsL_law wsL_bring := goodIn_ca (goodIn_ca (goodIn_ca (goodIn_r _ [227, 228, 97, 135, 229, 230, 231, 2, 232, 233, 234, 102, 103, 140, 141, 16, 212, 235, 236, 237, 238, 239, 31, 240, 218, 106, 107, 108, 241, 242, 243, 35, 244, 245, 70, 71, 72, 73, 74, 75, 76, 77, 78, 660, 661, 677, 678, 679, 680, 681, 682, 683, 684, 685, 686, 699, 700, 701, 702, 703, 704, 705, 706, 707, 708, 693, 694, 695, 696, 697, 698] (by decide +kernel) (by decide +kernel)) (goodIn_sub (fun _ h => List.mem_append_right _ h) (by decide +kernel))) (goodIn_sub (fun _ h => List.mem_append_left _ (List.mem_append_left _ (List.mem_append_right _ h))) (by decide +kernel))) (goodIn_sub (fun _ h => List.mem_append_left _ (List.mem_append_right _ h)) (by decide +kernel))
set_option maxRecDepth 20000 in
theorem gL_law_L_bring : GoodIn wsL_law (va_wsS RL 100 yL_bring wsL_bring) := goodIn_app (goodIn_of _ (by decide +kernel)) ggL_law_L_bring
set_option maxRecDepth 20000 in
theorem ggL_law_X6_bring : GoodIn wsL_law wsX6_bring := goodIn_r _ [249, 117, 250, 251, 252, 253, 5, 254, 223, 121, 122, 123, 124, 125, 126, 127, 255, 256, 257, 258, 39, 87, 224, 50, 51, 52, 662, 663, 664, 665, 666, 667, 668, 669, 670, 671, 672, 673, 674, 675, 676] (by decide +kernel) (by decide +kernel)
set_option maxRecDepth 20000 in
theorem gL_law_X6_bring : GoodIn wsL_law (wsV RL 102 RX6 yX6_bring wsX6_bring) := goodIn_app (goodIn_of _ (by decide +kernel)) ggL_law_X6_bring
set_option maxRecDepth 20000 in
theorem ggL_law_L_takeOut : GoodIn wsL_law wsL_takeOut := goodIn_ca (goodIn_ca (goodIn_r _ [261, 228, 135, 262, 263, 264, 2, 265, 233, 234, 140, 141, 16, 235, 266, 180, 267, 268, 269, 35, 270, 245, 271, 272, 273, 27, 274, 186, 275, 276, 277, 15, 278, 24, 279, 280, 158, 159, 23, 160, 48, 47, 161, 162, 163, 164, 281, 282, 283, 284, 56, 285, 286, 287, 288, 36, 289, 28, 290, 291, 292, 293, 294, 660, 661, 677, 678, 679, 680, 681, 682, 683, 684, 685, 686, 699, 700, 701, 702, 703, 704, 705, 706, 707, 708, 689, 690, 691, 692, 687, 688] (by decide +kernel) (by decide +kernel)) (goodIn_sub (fun _ h => List.mem_append_right _ h) (by decide +kernel))) (goodIn_sub (fun _ h => List.mem_append_left _ (List.mem_append_right _ h)) (by decide +kernel))
set_option maxRecDepth 20000 in
theorem gL_law_L_takeOut : GoodIn wsL_law (va_wsS RL 103 yL_takeOut wsL_takeOut) := goodIn_app (goodIn_of _ (by decide +kernel)) ggL_law_L_takeOut
set_option maxRecDepth 20000 in
theorem ggL_law_X6_takeOut : GoodIn wsL_law wsX6_takeOut := goodIn_r _ [298, 117, 299, 300, 301, 302, 5, 303, 250, 121, 122, 123, 124, 125, 126, 127, 304, 305, 306, 307, 308, 309, 310, 311, 87, 169, 170, 171, 172, 84, 83, 312, 313, 314, 315, 85, 316, 317, 318, 319, 320, 321, 322, 323, 662, 663, 664, 665, 666, 667, 668, 669, 670, 671, 672, 673, 674, 675, 676] (by decide +kernel) (by decide +kernel)
set_option maxRecDepth 20000 in
theorem gL_law_X6_takeOut : GoodIn wsL_law (wsV RL 105 RX6 yX6_takeOut wsX6_takeOut) := goodIn_app (goodIn_of _ (by decide +kernel)) ggL_law_X6_takeOut
set_option maxRecDepth 20000 in
theorem ggL_law_L_letter : GoodIn wsL_law wsL_letter := goodIn_ca (goodIn_r _ [326, 228, 327, 328, 329, 2, 330, 233, 234, 16, 235, 267, 268, 269, 35, 270, 245, 106, 107, 108, 331, 332, 333, 334, 70, 71, 72, 73, 74, 75, 76, 77, 78, 335, 660, 661, 677, 678, 679, 680, 681, 682, 683, 684, 685, 686, 699, 700, 701, 702, 703, 704, 705, 706, 707, 708] (by decide +kernel) (by decide +kernel)) (goodIn_sub (fun _ h => List.mem_append_right _ h) (by decide +kernel))
set_option maxRecDepth 20000 in
theorem gL_law_L_letter : GoodIn wsL_law (va_wsS RL 106 yL_letter wsL_letter) := goodIn_app (goodIn_of _ (by decide +kernel)) ggL_law_L_letter
