/-! the words of the helper of repair among the law's, in pieces -/
theorem gp_cons {big : List Cond} {c : Cond} {a : List Cond} (h1 : GoodIn big [c]) (h2 : GoodIn big a) : GoodIn big (c :: a) := goodIn_app (a := [c]) (b := a) h1 h2
set_option maxRecDepth 20000 in
theorem gp_rep0 : GoodIn wsL_law [.codeWith yL_repair cL_repair 3 (some .int) [(0, 8, 11, 25), (0, 8, 14, 15)]] := goodIn_r _ [232] (by decide +kernel) (by decide +kernel)
set_option maxRecDepth 20000 in
theorem gp_rep1 : GoodIn wsL_law wsL_repair_r1 := goodIn_r _ [233, 144, 234, 235, 236, 2, 237, 238, 239, 151, 152, 17, 32, 24, 19, 20, 28, 37, 38, 240, 177, 178, 16, 179] (by decide +kernel) (by decide +kernel)
set_option maxRecDepth 20000 in
theorem gp_rep2 : GoodIn wsL_law wsL_repair_r2 := goodIn_r _ [49, 158, 159, 163, 164, 165, 31, 166, 88, 89, 241, 242, 243, 23, 244, 245, 246, 247, 248, 249, 250, 251, 55, 54] (by decide +kernel) (by decide +kernel)
set_option maxRecDepth 20000 in
theorem gp_rep3 : GoodIn wsL_law wsL_repair_r3 := goodIn_r _ [252, 253, 254, 255, 62, 63, 59, 256, 257, 258, 259, 56, 57, 58, 260, 261, 262, 263, 264, 265, 266, 267, 60, 61] (by decide +kernel) (by decide +kernel)
set_option maxRecDepth 20000 in
theorem gp_rep4 : GoodIn wsL_law wsL_repair_r4 := goodIn_r _ [268, 269, 270, 271, 272, 273, 274, 275, 276, 27, 277, 73, 278, 279, 280, 281, 68, 282, 283, 284, 285, 286, 287, 288] (by decide +kernel) (by decide +kernel)
set_option maxRecDepth 20000 in
theorem gp_rep5 : GoodIn wsL_law wsL_repair_r5 := goodIn_r _ [289, 290, 291, 292, 293, 294, 69, 295, 296, 297, 298, 299, 300, 301, 72, 70, 302, 303, 304, 305, 185, 186, 187, 45] (by decide +kernel) (by decide +kernel)
set_option maxRecDepth 20000 in
theorem gp_rep6 : GoodIn wsL_law wsL_repair_r6 := goodIn_r _ [306, 307, 308, 309, 310, 311, 312, 313, 314, 315, 316, 317, 318, 319, 320, 321, 322, 323, 324, 325, 326, 327, 328, 91] (by decide +kernel) (by decide +kernel)
set_option maxRecDepth 20000 in
theorem gp_rep7 : GoodIn wsL_law wsL_repair_r7 := goodIn_r _ [87, 329, 330, 331, 332, 333, 334, 335, 336, 337, 82, 83, 84, 85, 86, 338, 339, 340, 341, 78, 79, 80, 342, 343] (by decide +kernel) (by decide +kernel)
set_option maxRecDepth 20000 in
theorem gp_rep8 : GoodIn wsL_law wsL_repair_r8 := goodIn_r _ [344, 345, 346, 347, 348, 349, 90, 81, 350, 351, 352, 353, 354, 355, 356, 357, 71, 358, 359, 360, 361, 362, 363, 364] (by decide +kernel) (by decide +kernel)
set_option maxRecDepth 20000 in
theorem gp_rep9 : GoodIn wsL_law wsL_repair_r9 := goodIn_r _ [365, 46, 366, 367, 368, 369, 370, 371, 372, 373, 374, 375] (by decide +kernel) (by decide +kernel)
set_option maxRecDepth 20000 in
theorem gp_X5 : GoodIn wsL_law wsX50 := goodIn_sub inlX5 (by decide +kernel)
set_option maxRecDepth 20000 in
theorem gp_X1 : GoodIn wsL_law wsX10 := goodIn_sub inlX1 (by decide +kernel)
set_option maxRecDepth 20000 in
theorem gp_X4 : GoodIn wsL_law wsX40 := goodIn_sub inlX4 (by decide +kernel)
set_option maxRecDepth 20000 in
theorem gp_X2 : GoodIn wsL_law wsX20 := goodIn_sub inlX2 (by decide +kernel)
set_option maxRecDepth 20000 in
theorem gp_X0 : GoodIn wsL_law wsX00 := goodIn_sub inlX0 (by decide +kernel)
set_option maxRecDepth 20000 in
theorem ggL_law_L_repair : GoodIn wsL_law wsL_repair := gp_cons gp_rep0 (goodIn_app (goodIn_app (goodIn_app (goodIn_app (goodIn_app (goodIn_app (goodIn_app (goodIn_app gp_rep1 (goodIn_app gp_rep2 (goodIn_app gp_rep3 (goodIn_app gp_rep4 (goodIn_app gp_rep5 (goodIn_app gp_rep6 (goodIn_app gp_rep7 (goodIn_app gp_rep8 gp_rep9)))))))) gp_X5) gp_X1) gp_X4) gp_X2) gp_X0) (goodIn_sub (fun _ h => List.mem_append_left _ (List.mem_append_right _ h)) (by decide +kernel))) (goodIn_sub (fun _ h => List.mem_append_left _ (List.mem_append_left _ (List.mem_append_right _ h))) (by decide +kernel)))
set_option maxRecDepth 20000 in
theorem gL_law_L_repair : GoodIn wsL_law (va_wsS RL 69 yL_repair wsL_repair) := goodIn_app (goodIn_of _ (by decide +kernel)) ggL_law_L_repair
