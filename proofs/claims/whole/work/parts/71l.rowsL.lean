set_option maxRecDepth 20000 in
theorem ggL_law_X6_digest : GoodIn wsL_law wsX6_digest := goodIn_r _ [657, 117, 658, 659, 83, 84, 191, 223, 86, 250, 87, 536, 537, 538, 5, 539, 299, 88, 89, 484, 485, 486, 487, 304, 305, 306, 307, 308, 309, 310, 311, 383, 384, 385, 386, 85, 387, 388, 389, 390, 169, 170, 171, 172, 312, 313, 314, 315, 662, 663, 664, 665, 666, 667, 668, 669, 670, 671, 672, 673, 674, 675, 676] (by decide +kernel) (by decide +kernel)
set_option maxRecDepth 20000 in
theorem gL_law_X6_digest : GoodIn wsL_law (wsV RL 142 RX6 yX6_digest wsX6_digest) := goodIn_app (goodIn_of _ (by decide +kernel)) ggL_law_X6_digest
