set_option maxRecDepth 20000 in
theorem gp_mr0 : GoodIn wsL_law [.code yX6_repair cX6_repair 6 (some .int)] := goodIn_r _ [379] (by decide +kernel) (by decide +kernel)
set_option maxRecDepth 20000 in
theorem gp_mr1 : GoodIn wsL_law wsX6_repair_r1 := goodIn_r _ [192, 194, 380, 381, 122, 382, 131, 383, 384, 385, 386, 387, 5, 388, 193, 110, 111, 109, 195, 196, 197, 198, 389, 390] (by decide +kernel) (by decide +kernel)
set_option maxRecDepth 20000 in
theorem gp_mr2 : GoodIn wsL_law wsX6_repair_r2 := goodIn_r _ [391, 392, 393, 121, 221, 115, 114, 119, 120, 116, 117, 118, 394, 395, 396, 397, 398, 399, 400, 401, 402, 403, 404, 405] (by decide +kernel) (by decide +kernel)
set_option maxRecDepth 20000 in
theorem gp_mr3 : GoodIn wsL_law wsX6_repair_r3 := goodIn_r _ [406, 123, 407, 408, 409, 410, 411, 412, 413, 414, 415, 416, 417, 418, 419, 420, 421, 422, 423, 133, 126, 129, 130, 127] (by decide +kernel) (by decide +kernel)
set_option maxRecDepth 20000 in
theorem gp_mr4 : GoodIn wsL_law wsX6_repair_r4 := goodIn_r _ [128, 132, 125, 124, 424, 425, 426, 427, 428, 429, 430, 431] (by decide +kernel) (by decide +kernel)
set_option maxRecDepth 20000 in
theorem gp_X6 : GoodIn wsL_law wsX60 := goodIn_sub inlX6 (by decide +kernel)
set_option maxRecDepth 20000 in
theorem ggL_law_X6_repair : GoodIn wsL_law wsX6_repair := gp_cons gp_mr0 (goodIn_app (goodIn_app gp_mr1 (goodIn_app gp_mr2 (goodIn_app gp_mr3 gp_mr4))) gp_X6)
set_option maxRecDepth 20000 in
theorem gL_law_X6_repair : GoodIn wsL_law (wsV RL 72 RX6 yX6_repair wsX6_repair) := goodIn_app (goodIn_of _ (by decide +kernel)) ggL_law_X6_repair
set_option maxRecDepth 20000 in
theorem ggL_law_X5_tokens : GoodIn wsL_law wsX5_tokens := goodIn_r _ [435, 32, 24, 640, 641, 642, 643, 644, 645, 646, 647, 648, 715, 716, 717, 718, 719, 720, 721, 722, 723, 724, 725, 726, 727, 728, 699, 700, 701, 702, 703, 704, 705, 706, 707, 708] (by decide +kernel) (by decide +kernel)
set_option maxRecDepth 20000 in
theorem gL_law_X5_tokens : GoodIn wsL_law (wsV RL 73 RX5 yX5_tokens wsX5_tokens) := goodIn_app (goodIn_of _ (by decide +kernel)) ggL_law_X5_tokens
