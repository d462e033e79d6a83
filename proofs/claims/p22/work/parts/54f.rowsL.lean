set_option maxRecDepth 20000 in
theorem ggL_law_X5_bin : GoodIn wsL_law wsX5_bin := goodIn_ca (goodIn_r _ [339, 166, 167, 15, 135, 340, 270, 271, 26, 272, 141, 114, 115, 2, 116, 341, 342, 343, 14, 344, 27, 345, 346, 267, 35, 269, 234, 235, 236, 237, 23, 172, 238, 201, 202, 22, 203, 46, 45, 204, 205, 206, 207, 254, 255, 256, 257, 54, 347, 348, 349, 34, 350, 181, 71, 73, 72, 351, 352, 360, 361, 362, 363, 364, 365, 366, 367, 368, 369, 372, 373, 374, 375, 370, 371, 382, 383, 384, 385, 386, 387, 388, 389, 390, 391] (by decide +kernel) (by decide +kernel)) (goodIn_sub (fun _ h => List.mem_append_right _ h) (by decide +kernel))
set_option maxRecDepth 20000 in
theorem gL_law_X5_bin : GoodIn wsL_law (wsV RL 85 RX5 yX5_bin wsX5_bin) := goodIn_app (goodIn_of _ (by decide +kernel)) ggL_law_X5_bin
