set_option maxRecDepth 20000 in
theorem gp_pr0 : GoodIn wsL_law [.codeWith yL_print cL_print 4 (some .int) [(0, 9, 12, 13), (0, 9, 15, 15)]] := goodIn_r _ [498] (by decide +kernel) (by decide +kernel)
set_option maxRecDepth 20000 in
theorem gp_pr1 : GoodIn wsL_law wsL_print_r1 := goodIn_r _ [143, 144, 499, 500, 501, 2, 502, 149, 150, 151, 152, 32, 36, 503, 504, 505, 35, 506, 100, 101, 104, 507, 508, 509] (by decide +kernel) (by decide +kernel)
set_option maxRecDepth 20000 in
theorem gp_pr2 : GoodIn wsL_law wsL_print_r2 := goodIn_r _ [510, 97, 511, 512, 513, 31, 514, 371, 372, 373, 374, 78, 515, 516, 517, 518, 519, 250, 247, 251, 103, 520, 521, 522] (by decide +kernel) (by decide +kernel)
set_option maxRecDepth 20000 in
theorem gp_pr3 : GoodIn wsL_law wsL_print_r3 := goodIn_r _ [523, 23, 524, 59, 61, 60, 525, 456, 457, 458, 62, 57, 526, 451, 452, 453, 527, 528, 529, 530, 531, 532, 533, 534] (by decide +kernel) (by decide +kernel)
set_option maxRecDepth 20000 in
theorem gp_pr4 : GoodIn wsL_law wsL_print_r4 := goodIn_r _ [535, 536, 537, 538, 54, 56, 272, 273, 539, 540, 541, 542, 98, 99, 102, 543, 544, 545, 546, 547, 548, 549, 550, 96] (by decide +kernel) (by decide +kernel)
set_option maxRecDepth 20000 in
theorem gp_pr5 : GoodIn wsL_law wsL_print_r5 := goodIn_r _ [551, 552, 553, 554, 555, 556, 557, 558, 559, 560, 561, 562, 563, 564, 565, 566, 567] (by decide +kernel) (by decide +kernel)
set_option maxRecDepth 20000 in
theorem gp_X3 : GoodIn wsL_law wsX30 := goodIn_sub inlX3 (by decide +kernel)
set_option maxRecDepth 20000 in
theorem ggL_law_L_print : GoodIn wsL_law wsL_print := gp_cons gp_pr0 (goodIn_app (goodIn_app (goodIn_app (goodIn_app (goodIn_app (goodIn_app (goodIn_app (goodIn_app gp_pr1 (goodIn_app gp_pr2 (goodIn_app gp_pr3 (goodIn_app gp_pr4 gp_pr5)))) gp_X5) gp_X4) gp_X3) gp_X1) gp_X2) (goodIn_sub (fun _ h => List.mem_append_left _ (List.mem_append_left _ (List.mem_append_left _ (List.mem_append_right _ h)))) (by decide +kernel))) (goodIn_sub (fun _ h => List.mem_append_left _ (List.mem_append_left _ (List.mem_append_right _ h))) (by decide +kernel)))
set_option maxRecDepth 20000 in
theorem gL_law_L_print : GoodIn wsL_law (va_wsS RL 91 yL_print wsL_print) := goodIn_app (goodIn_of _ (by decide +kernel)) ggL_law_L_print
