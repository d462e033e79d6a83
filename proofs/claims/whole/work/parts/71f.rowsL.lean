set_option maxRecDepth 20000 in
theorem ggL_law_X6_addBin : GoodIn wsL_law wsX6_addBin := goodIn_r _ [190, 117, 191, 85, 118, 119, 5, 120, 121, 122, 123, 124, 125, 126, 127, 662, 663, 664, 665, 666, 667, 668, 669, 670, 671, 672, 673, 674, 675, 676] (by decide +kernel) (by decide +kernel)
set_option maxRecDepth 20000 in
theorem gL_law_X6_addBin : GoodIn wsL_law (wsV RL 92 RX6 yX6_addBin wsX6_addBin) := goodIn_app (goodIn_of _ (by decide +kernel)) ggL_law_X6_addBin
set_option maxRecDepth 20000 in
theorem ggL_law_L_setCrew : GoodIn wsL_law wsL_setCrew := goodIn_ca (goodIn_r _ [194, 97, 195, 196, 197, 2, 198, 102, 103, 16, 199, 200, 106, 107, 108, 660, 661, 677, 678, 679, 680, 681, 682, 683, 684, 685, 686] (by decide +kernel) (by decide +kernel)) (goodIn_sub (fun _ h => List.mem_append_left _ (List.mem_append_left _ (List.mem_append_right _ h))) (by decide +kernel))
set_option maxRecDepth 20000 in
theorem gL_law_L_setCrew : GoodIn wsL_law (va_wsS RL 93 yL_setCrew wsL_setCrew) := goodIn_app (goodIn_of _ (by decide +kernel)) ggL_law_L_setCrew
set_option maxRecDepth 20000 in
theorem ggL_law_X6_setCrew : GoodIn wsL_law wsX6_setCrew := goodIn_r _ [204, 117, 89, 88, 121, 122, 5, 123, 124, 125, 126, 127, 662, 663, 664, 665, 666, 667, 668, 669, 670, 671, 672, 673, 674, 675, 676] (by decide +kernel) (by decide +kernel)
set_option maxRecDepth 20000 in
theorem gL_law_X6_setCrew : GoodIn wsL_law (wsV RL 95 RX6 yX6_setCrew wsX6_setCrew) := goodIn_app (goodIn_of _ (by decide +kernel)) ggL_law_X6_setCrew
set_option maxRecDepth 20000 in
theorem ggL_law_L_addDrowned : GoodIn wsL_law wsL_addDrowned := goodIn_ca (goodIn_ca (goodIn_r _ [207, 97, 135, 208, 209, 210, 2, 211, 102, 103, 140, 141, 16, 212, 213, 106, 107, 108, 214, 215, 216, 31, 217, 218, 62, 63, 64, 65, 66, 660, 661, 677, 678, 679, 680, 681, 682, 683, 684, 685, 686, 693, 694, 695, 696, 697, 698] (by decide +kernel) (by decide +kernel)) (goodIn_sub (fun _ h => List.mem_append_left _ (List.mem_append_left _ (List.mem_append_right _ h))) (by decide +kernel))) (goodIn_sub (fun _ h => List.mem_append_left _ (List.mem_append_right _ h)) (by decide +kernel))
set_option maxRecDepth 20000 in
theorem gL_law_L_addDrowned : GoodIn wsL_law (va_wsS RL 96 yL_addDrowned wsL_addDrowned) := goodIn_app (goodIn_of _ (by decide +kernel)) ggL_law_L_addDrowned
set_option maxRecDepth 20000 in
theorem ggL_law_X6_addDrowned : GoodIn wsL_law wsX6_addDrowned := goodIn_r _ [222, 117, 223, 39, 86, 224, 50, 51, 52, 118, 119, 5, 120, 121, 122, 123, 124, 125, 126, 127, 662, 663, 664, 665, 666, 667, 668, 669, 670, 671, 672, 673, 674, 675, 676] (by decide +kernel) (by decide +kernel)
set_option maxRecDepth 20000 in
theorem gL_law_X6_addDrowned : GoodIn wsL_law (wsV RL 99 RX6 yX6_addDrowned wsX6_addDrowned) := goodIn_app (goodIn_of _ (by decide +kernel)) ggL_law_X6_addDrowned
