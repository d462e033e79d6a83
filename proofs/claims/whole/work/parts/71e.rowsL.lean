set_option maxRecDepth 20000 in
theorem ggL_law_L_addTide : GoodIn wsL_law wsL_addTide := goodIn_ca (goodIn_ca (goodIn_r _ [134, 97, 135, 136, 137, 138, 2, 139, 102, 103, 140, 141, 16, 104, 105, 106, 107, 108, 142, 143, 144, 23, 145, 48, 47, 660, 661, 677, 678, 679, 680, 681, 682, 683, 684, 685, 686, 687, 688] (by decide +kernel) (by decide +kernel)) (goodIn_sub (fun _ h => List.mem_append_left _ (List.mem_append_left _ (List.mem_append_right _ h))) (by decide +kernel))) (goodIn_sub (fun _ h => List.mem_append_left _ (List.mem_append_right _ h)) (by decide +kernel))
set_option maxRecDepth 20000 in
theorem gL_law_L_addTide : GoodIn wsL_law (va_wsS RL 83 yL_addTide wsL_addTide) := goodIn_app (goodIn_of _ (by decide +kernel)) ggL_law_L_addTide
set_option maxRecDepth 20000 in
theorem ggL_law_X6_addTide : GoodIn wsL_law wsX6_addTide := goodIn_r _ [149, 117, 83, 84, 118, 119, 5, 120, 121, 122, 123, 124, 125, 126, 127, 662, 663, 664, 665, 666, 667, 668, 669, 670, 671, 672, 673, 674, 675, 676] (by decide +kernel) (by decide +kernel)
set_option maxRecDepth 20000 in
theorem gL_law_X6_addTide : GoodIn wsL_law (wsV RL 85 RX6 yX6_addTide wsX6_addTide) := goodIn_app (goodIn_of _ (by decide +kernel)) ggL_law_X6_addTide
set_option maxRecDepth 20000 in
theorem ggL_law_L_tide : GoodIn wsL_law wsL_tide := goodIn_ca (goodIn_r _ [152, 97, 153, 154, 155, 2, 156, 102, 103, 16, 104, 157, 158, 159, 23, 160, 48, 47, 161, 162, 163, 164, 660, 661, 677, 678, 679, 680, 681, 682, 683, 684, 685, 686, 687, 688] (by decide +kernel) (by decide +kernel)) (goodIn_sub (fun _ h => List.mem_append_left _ (List.mem_append_left _ (List.mem_append_right _ h))) (by decide +kernel))
set_option maxRecDepth 20000 in
theorem gL_law_L_tide : GoodIn wsL_law (va_wsS RL 86 yL_tide wsL_tide) := goodIn_app (goodIn_of _ (by decide +kernel)) ggL_law_L_tide
set_option maxRecDepth 20000 in
theorem ggL_law_X6_tide : GoodIn wsL_law wsX6_tide := goodIn_r _ [168, 117, 169, 170, 171, 5, 172, 84, 83, 124, 125, 126, 127, 662, 663, 664, 665, 666, 667, 668, 669, 670, 671, 672, 673, 674, 675, 676] (by decide +kernel) (by decide +kernel)
set_option maxRecDepth 20000 in
theorem gL_law_X6_tide : GoodIn wsL_law (wsV RL 88 RX6 yX6_tide wsX6_tide) := goodIn_app (goodIn_of _ (by decide +kernel)) ggL_law_X6_tide
set_option maxRecDepth 20000 in
theorem ggL_law_L_addBin : GoodIn wsL_law wsL_addBin := goodIn_ca (goodIn_ca (goodIn_r _ [175, 97, 135, 176, 177, 178, 2, 179, 102, 103, 140, 141, 16, 180, 181, 106, 107, 108, 182, 183, 184, 27, 185, 186, 56, 57, 58, 660, 661, 677, 678, 679, 680, 681, 682, 683, 684, 685, 686, 689, 690, 691, 692] (by decide +kernel) (by decide +kernel)) (goodIn_sub (fun _ h => List.mem_append_left _ (List.mem_append_left _ (List.mem_append_right _ h))) (by decide +kernel))) (goodIn_sub (fun _ h => List.mem_append_left _ (List.mem_append_right _ h)) (by decide +kernel))
set_option maxRecDepth 20000 in
theorem gL_law_L_addBin : GoodIn wsL_law (va_wsS RL 89 yL_addBin wsL_addBin) := goodIn_app (goodIn_of _ (by decide +kernel)) ggL_law_L_addBin
