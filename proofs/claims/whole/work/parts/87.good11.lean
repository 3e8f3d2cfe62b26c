set_option maxRecDepth 20000 in
theorem ggL_law_X6_character : GoodIn wsL_law wsX6_character := goodIn_r _ [623, 192, 572, 138, 463, 464, 5, 465, 195, 196, 197, 198, 649, 650, 651, 652, 653, 654, 655, 656, 657, 658, 659, 660, 661, 662, 663, 664, 665, 666, 667, 668, 669, 670, 671, 672, 673, 674, 675, 676, 677, 678, 679, 680, 681, 682, 683, 684, 685, 686, 687, 688, 689, 690, 691] (by decide +kernel) (by decide +kernel)
set_option maxRecDepth 20000 in
theorem gL_law_X6_character : GoodIn wsL_law (wsV RL 97 RX6 yX6_character wsX6_character) := goodIn_app (goodIn_of _ (by decide +kernel)) ggL_law_X6_character
set_option maxRecDepth 20000 in
theorem ggL_law_X5_grounded : GoodIn wsL_law wsX5_grounded := goodIn_r _ [627, 17, 240, 177, 178, 16, 179, 49, 158, 2, 159, 640, 641, 642, 643, 644, 645, 646, 647, 648, 692, 693, 694, 695, 696, 697, 698] (by decide +kernel) (by decide +kernel)
set_option maxRecDepth 20000 in
theorem gL_law_X5_grounded : GoodIn wsL_law (wsV RL 98 RX5 yX5_grounded wsX5_grounded) := goodIn_app (goodIn_of _ (by decide +kernel)) ggL_law_X5_grounded
set_option maxRecDepth 20000 in
theorem ggL_law_X6_grounded : GoodIn wsL_law wsX6_grounded := goodIn_r _ [631, 192, 385, 386, 387, 5, 388, 193, 110, 111, 109, 649, 650, 651, 652, 653, 654, 655, 656, 657, 658, 659, 660, 661, 662, 663, 664, 665, 666, 667, 668, 669, 670, 671, 672, 673, 674, 675, 676, 677, 678, 679, 680, 681, 682, 683, 684, 685, 686, 687, 688, 689, 690, 691] (by decide +kernel) (by decide +kernel)
set_option maxRecDepth 20000 in
theorem gL_law_X6_grounded : GoodIn wsL_law (wsV RL 102 RX6 yX6_grounded wsX6_grounded) := goodIn_app (goodIn_of _ (by decide +kernel)) ggL_law_X6_grounded
set_option maxRecDepth 20000 in
theorem ggL_law_X5_count : GoodIn wsL_law wsX5_count := goodIn_r _ [635, 17, 37, 38, 640, 641, 642, 643, 644, 645, 646, 647, 648, 692, 693, 694, 695, 696, 697, 698] (by decide +kernel) (by decide +kernel)
set_option maxRecDepth 20000 in
theorem gL_law_X5_count : GoodIn wsL_law (wsV RL 103 RX5 yX5_count wsX5_count) := goodIn_app (goodIn_of _ (by decide +kernel)) ggL_law_X5_count
