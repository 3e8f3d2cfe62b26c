set_option maxRecDepth 20000 in
theorem gp_mp0 : GoodIn wsL_law [.code yX6_print cX6_print 4 (some .int)] := goodIn_r _ [571] (by decide +kernel) (by decide +kernel)
set_option maxRecDepth 20000 in
theorem gp_mp1 : GoodIn wsL_law wsX6_print_r1 := goodIn_r _ [192, 194, 572, 573, 422, 126, 134, 129, 130, 380, 381, 121, 195, 196, 197, 5, 198, 574, 575, 576, 577, 136, 137, 135] (by decide +kernel) (by decide +kernel)
set_option maxRecDepth 20000 in
theorem gp_mp2 : GoodIn wsL_law wsX6_print_r2 := goodIn_r _ [115, 116, 127, 578, 579, 580, 581, 120, 117, 582, 583, 584, 585, 112, 125, 128, 586, 587, 588, 589, 590, 591, 592, 593] (by decide +kernel) (by decide +kernel)
set_option maxRecDepth 20000 in
theorem gp_mp3 : GoodIn wsL_law wsX6_print_r3 := goodIn_r _ [594, 595, 596, 113, 597, 598, 599, 600, 138, 601, 602, 603, 604, 605, 606, 607, 608, 119] (by decide +kernel) (by decide +kernel)
set_option maxRecDepth 20000 in
theorem ggL_law_X6_print : GoodIn wsL_law wsX6_print := gp_cons gp_mp0 (goodIn_app (goodIn_app gp_mp1 (goodIn_app gp_mp2 gp_mp3)) gp_X6)
set_option maxRecDepth 20000 in
theorem gL_law_X6_print : GoodIn wsL_law (wsV RL 94 RX6 yX6_print wsX6_print) := goodIn_app (goodIn_of _ (by decide +kernel)) ggL_law_X6_print
set_option maxRecDepth 20000 in
theorem ggL_law_L_character : GoodIn wsL_law wsL_character := goodIn_ca (goodIn_r _ [611, 443, 612, 613, 614, 2, 615, 448, 449, 36, 616, 617, 618, 35, 619, 100, 96, 640, 641, 642, 643, 644, 645, 646, 647, 648, 729, 730, 731, 732, 733, 734, 735, 736, 737] (by decide +kernel) (by decide +kernel)) (goodIn_sub (fun _ h => List.mem_append_right _ h) (by decide +kernel))
set_option maxRecDepth 20000 in
theorem gL_law_L_character : GoodIn wsL_law (va_wsS RL 95 yL_character wsL_character) := goodIn_app (goodIn_of _ (by decide +kernel)) ggL_law_L_character
