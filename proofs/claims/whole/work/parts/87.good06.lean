set_option maxRecDepth 20000 in
theorem ggL_law_X6_tokens : GoodIn wsL_law wsX6_tokens := goodIn_r _ [439, 192, 194, 381, 649, 650, 651, 652, 653, 654, 655, 656, 657, 658, 659, 660, 661, 662, 663, 664, 665, 666, 667, 668, 669, 670, 671, 672, 673, 674, 675, 676, 677, 678, 679, 680, 681, 682, 683, 684, 685, 686, 687, 688, 689, 690, 691] (by decide +kernel) (by decide +kernel)
set_option maxRecDepth 20000 in
theorem gL_law_X6_tokens : GoodIn wsL_law (wsV RL 76 RX6 yX6_tokens wsX6_tokens) := goodIn_app (goodIn_of _ (by decide +kernel)) ggL_law_X6_tokens
set_option maxRecDepth 20000 in
theorem ggL_law_L_token : GoodIn wsL_law wsL_token := goodIn_ca (goodIn_r _ [442, 443, 444, 445, 446, 2, 447, 448, 449, 32, 24, 450, 451, 452, 23, 453, 62, 59, 454, 287, 288, 289, 58, 455, 456, 457, 458, 57, 640, 641, 642, 643, 644, 645, 646, 647, 648, 715, 716, 717, 718, 719, 720, 721, 722, 723, 724, 725, 726, 727, 728, 699, 700, 701, 702, 703, 704, 705, 706, 707, 708] (by decide +kernel) (by decide +kernel)) (goodIn_sub (fun _ h => List.mem_append_right _ h) (by decide +kernel))
set_option maxRecDepth 20000 in
theorem gL_law_L_token : GoodIn wsL_law (va_wsS RL 77 yL_token wsL_token) := goodIn_app (goodIn_of _ (by decide +kernel)) ggL_law_L_token
set_option maxRecDepth 20000 in
theorem ggL_law_X6_token : GoodIn wsL_law wsX6_token := goodIn_r _ [462, 192, 194, 381, 121, 118, 117, 463, 464, 5, 465, 195, 196, 197, 198, 649, 650, 651, 652, 653, 654, 655, 656, 657, 658, 659, 660, 661, 662, 663, 664, 665, 666, 667, 668, 669, 670, 671, 672, 673, 674, 675, 676, 677, 678, 679, 680, 681, 682, 683, 684, 685, 686, 687, 688, 689, 690, 691] (by decide +kernel) (by decide +kernel)
set_option maxRecDepth 20000 in
theorem gL_law_X6_token : GoodIn wsL_law (wsV RL 80 RX6 yX6_token wsX6_token) := goodIn_app (goodIn_of _ (by decide +kernel)) ggL_law_X6_token
