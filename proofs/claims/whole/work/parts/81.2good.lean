set_option maxRecDepth 20000 in
theorem ggL_law_X5_init : GoodIn wsL_law wsX5_init := goodIn_r _ [10, 11, 12, 13, 14, 15, 16, 17, 18, 19, 20, 21, 22, 23, 24, 25, 26, 27, 28, 29, 30, 31, 32, 33, 34, 35, 36, 37, 38, 39, 40, 41, 42, 43, 44, 45, 46, 47, 48, 49, 50, 51, 52, 53, 54, 55, 56, 57, 58, 59, 60, 61, 62, 63, 64, 65, 66, 67, 6, 68, 69, 70, 71, 72, 73, 74, 75, 76, 77, 78, 79, 80, 81, 82, 83, 84, 85, 86, 87, 88, 89, 90, 91, 92, 93, 94, 95, 96, 97, 98, 99, 100, 101, 102, 103, 104, 692, 693, 694, 695, 696, 697, 698, 640, 641, 642, 643, 644, 645, 646, 647, 648, 699, 700, 701, 702, 703, 704, 705, 706, 707, 708, 709, 710, 711, 712, 713, 714, 715, 716, 717, 718, 719, 720, 721, 722, 723, 724, 725, 726, 727, 728, 729, 730, 731, 732, 733, 734, 735, 736, 737] (by decide +kernel) (by decide +kernel)
set_option maxRecDepth 20000 in
theorem gL_law_X5_init : GoodIn wsL_law (wsX5_init) := ggL_law_X5_init
set_option maxRecDepth 20000 in
theorem ggL_law_X6_init : GoodIn wsL_law wsX6_init := goodIn_r _ [107, 108, 12, 13, 42, 109, 110, 111, 112, 47, 113, 114, 115, 116, 117, 118, 119, 120, 121, 6, 122, 123, 124, 125, 126, 127, 128, 129, 130, 131, 132, 133, 134, 135, 136, 137, 138, 649, 650, 651, 652, 653, 654, 655, 656, 657, 658, 659, 660, 661, 662, 663, 664, 665, 666, 667, 668, 669, 670, 671, 672, 673, 674, 675, 676, 677, 678, 679, 680, 681, 682, 683, 684, 685, 686, 687, 688, 689, 690, 691] (by decide +kernel) (by decide +kernel)
set_option maxRecDepth 20000 in
theorem gL_law_X6_init : GoodIn wsL_law (wsX6_init) := ggL_law_X6_init
set_option maxRecDepth 20000 in
theorem ggL_law_L_rule : GoodIn wsL_law wsL_rule := goodIn_ca (goodIn_ca (goodIn_r _ [142, 143, 144, 145, 146, 147, 2, 148, 149, 150, 151, 152, 17, 32, 153, 154, 16, 155, 156, 157, 158, 159, 160, 161, 162, 163, 164, 165, 31, 166, 88, 89, 167, 168, 169, 170, 50, 43, 44, 48, 45, 46, 171, 172, 173, 174, 175, 49, 176, 177, 178, 179, 180, 181, 182, 183, 184, 185, 186, 187, 640, 641, 642, 643, 644, 645, 646, 647, 648, 692, 693, 694, 695, 696, 697, 698, 715, 716, 717, 718, 719, 720, 721, 722, 723, 724, 725, 726, 727, 728] (by decide +kernel) (by decide +kernel)) (goodIn_sub (fun _ h => List.mem_append_left _ (List.mem_append_left _ (List.mem_append_left _ (List.mem_append_right _ h)))) (by decide +kernel))) (goodIn_sub (fun _ h => List.mem_append_left _ (List.mem_append_left _ (List.mem_append_right _ h))) (by decide +kernel))
set_option maxRecDepth 20000 in
theorem gL_law_L_rule : GoodIn wsL_law (va_wsS RL 50 yL_rule wsL_rule) := goodIn_app (goodIn_of _ (by decide +kernel)) ggL_law_L_rule
set_option maxRecDepth 20000 in
theorem ggL_law_X6_rule : GoodIn wsL_law wsX6_rule := goodIn_r _ [191, 192, 193, 111, 112, 109, 110, 113, 194, 195, 196, 197, 5, 198, 649, 650, 651, 652, 653, 654, 655, 656, 657, 658, 659, 660, 661, 662, 663, 664, 665, 666, 667, 668, 669, 670, 671, 672, 673, 674, 675, 676, 677, 678, 679, 680, 681, 682, 683, 684, 685, 686, 687, 688, 689, 690, 691] (by decide +kernel) (by decide +kernel)
set_option maxRecDepth 20000 in
theorem gL_law_X6_rule : GoodIn wsL_law (wsV RL 55 RX6 yX6_rule wsX6_rule) := goodIn_app (goodIn_of _ (by decide +kernel)) ggL_law_X6_rule
set_option maxRecDepth 20000 in
theorem ggL_law_X6_thrown : GoodIn wsL_law wsX6_thrown := goodIn_r _ [202, 192, 649, 650, 651, 652, 653, 654, 655, 656, 657, 658, 659, 660, 661, 662, 663, 664, 665, 666, 667, 668, 669, 670, 671, 672, 673, 674, 675, 676, 677, 678, 679, 680, 681, 682, 683, 684, 685, 686, 687, 688, 689, 690, 691] (by decide +kernel) (by decide +kernel)
set_option maxRecDepth 20000 in
theorem gL_law_X6_thrown : GoodIn wsL_law (wsV RL 56 RX6 yX6_thrown wsX6_thrown) := goodIn_app (goodIn_of _ (by decide +kernel)) ggL_law_X6_thrown
set_option maxRecDepth 20000 in
theorem ggL_law_L_write : GoodIn wsL_law wsL_write := goodIn_ca (goodIn_ca (goodIn_r _ [205, 143, 144, 206, 207, 208, 2, 209, 149, 150, 151, 152, 20, 19, 210, 211, 212, 213, 214, 215, 640, 641, 642, 643, 644, 645, 646, 647, 648] (by decide +kernel) (by decide +kernel)) (goodIn_sub (fun _ h => List.mem_append_left _ (List.mem_append_left _ (List.mem_append_left _ (List.mem_append_right _ h)))) (by decide +kernel))) (goodIn_sub (fun _ h => List.mem_append_left _ (List.mem_append_left _ (List.mem_append_right _ h))) (by decide +kernel))
set_option maxRecDepth 20000 in
theorem gL_law_L_write : GoodIn wsL_law (va_wsS RL 61 yL_write wsL_write) := goodIn_app (goodIn_of _ (by decide +kernel)) ggL_law_L_write
set_option maxRecDepth 20000 in
theorem ggL_law_X6_write : GoodIn wsL_law wsX6_write := goodIn_r _ [219, 192, 220, 221, 114, 195, 196, 197, 5, 198, 649, 650, 651, 652, 653, 654, 655, 656, 657, 658, 659, 660, 661, 662, 663, 664, 665, 666, 667, 668, 669, 670, 671, 672, 673, 674, 675, 676, 677, 678, 679, 680, 681, 682, 683, 684, 685, 686, 687, 688, 689, 690, 691] (by decide +kernel) (by decide +kernel)
set_option maxRecDepth 20000 in
theorem gL_law_X6_write : GoodIn wsL_law (wsV RL 64 RX6 yX6_write wsX6_write) := goodIn_app (goodIn_of _ (by decide +kernel)) ggL_law_X6_write
set_option maxRecDepth 20000 in
theorem ggL_law_X5_erase : GoodIn wsL_law wsX5_erase := goodIn_r _ [225, 20, 640, 641, 642, 643, 644, 645, 646, 647, 648] (by decide +kernel) (by decide +kernel)
set_option maxRecDepth 20000 in
theorem gL_law_X5_erase : GoodIn wsL_law (wsV RL 65 RX5 yX5_erase wsX5_erase) := goodIn_app (goodIn_of _ (by decide +kernel)) ggL_law_X5_erase
set_option maxRecDepth 20000 in
theorem ggL_law_X6_erase : GoodIn wsL_law wsX6_erase := goodIn_r _ [229, 192, 221, 649, 650, 651, 652, 653, 654, 655, 656, 657, 658, 659, 660, 661, 662, 663, 664, 665, 666, 667, 668, 669, 670, 671, 672, 673, 674, 675, 676, 677, 678, 679, 680, 681, 682, 683, 684, 685, 686, 687, 688, 689, 690, 691] (by decide +kernel) (by decide +kernel)
set_option maxRecDepth 20000 in
theorem gL_law_X6_erase : GoodIn wsL_law (wsV RL 68 RX6 yX6_erase wsX6_erase) := goodIn_app (goodIn_of _ (by decide +kernel)) ggL_law_X6_erase
set_option maxRecDepth 20000 in
theorem ggL_law_L_repair : GoodIn wsL_law wsL_repair := goodIn_ca (goodIn_ca (goodIn_r _ [232, 233, 144, 234, 235, 236, 2, 237, 238, 239, 151, 152, 17, 32, 24, 19, 20, 28, 37, 38, 240, 177, 178, 16, 179, 49, 158, 159, 163, 164, 165, 31, 166, 88, 89, 241, 242, 243, 23, 244, 245, 246, 247, 248, 249, 250, 251, 55, 54, 252, 253, 254, 255, 62, 63, 59, 256, 257, 258, 259, 56, 57, 58, 260, 261, 262, 263, 264, 265, 266, 267, 60, 61, 268, 269, 270, 271, 272, 273, 274, 275, 276, 27, 277, 73, 278, 279, 280, 281, 68, 282, 283, 284, 285, 286, 287, 288, 289, 290, 291, 292, 293, 294, 69, 295, 296, 297, 298, 299, 300, 301, 72, 70, 302, 303, 304, 305, 185, 186, 187, 45, 306, 307, 308, 309, 310, 311, 312, 313, 314, 315, 316, 317, 318, 319, 320, 321, 322, 323, 324, 325, 326, 327, 328, 91, 87, 329, 330, 331, 332, 333, 334, 335, 336, 337, 82, 83, 84, 85, 86, 338, 339, 340, 341, 78, 79, 80, 342, 343, 344, 345, 346, 347, 348, 349, 90, 81, 350, 351, 352, 353, 354, 355, 356, 357, 71, 358, 359, 360, 361, 362, 363, 364, 365, 46, 366, 367, 368, 369, 370, 371, 372, 373, 374, 375, 640, 641, 642, 643, 644, 645, 646, 647, 648, 699, 700, 701, 702, 703, 704, 705, 706, 707, 708, 715, 716, 717, 718, 719, 720, 721, 722, 723, 724, 725, 726, 727, 728, 692, 693, 694, 695, 696, 697, 698, 709, 710, 711, 712, 713, 714] (by decide +kernel) (by decide +kernel)) (goodIn_sub (fun _ h => List.mem_append_left _ (List.mem_append_right _ h)) (by decide +kernel))) (goodIn_sub (fun _ h => List.mem_append_left _ (List.mem_append_left _ (List.mem_append_right _ h))) (by decide +kernel))
set_option maxRecDepth 20000 in
theorem gL_law_L_repair : GoodIn wsL_law (va_wsS RL 69 yL_repair wsL_repair) := goodIn_app (goodIn_of _ (by decide +kernel)) ggL_law_L_repair
set_option maxRecDepth 20000 in
theorem ggL_law_X6_repair : GoodIn wsL_law wsX6_repair := goodIn_r _ [379, 192, 194, 380, 381, 122, 382, 131, 383, 384, 385, 386, 387, 5, 388, 193, 110, 111, 109, 195, 196, 197, 198, 389, 390, 391, 392, 393, 121, 221, 115, 114, 119, 120, 116, 117, 118, 394, 395, 396, 397, 398, 399, 400, 401, 402, 403, 404, 405, 406, 123, 407, 408, 409, 410, 411, 412, 413, 414, 415, 416, 417, 418, 419, 420, 421, 422, 423, 133, 126, 129, 130, 127, 128, 132, 125, 124, 424, 425, 426, 427, 428, 429, 430, 431, 649, 650, 651, 652, 653, 654, 655, 656, 657, 658, 659, 660, 661, 662, 663, 664, 665, 666, 667, 668, 669, 670, 671, 672, 673, 674, 675, 676, 677, 678, 679, 680, 681, 682, 683, 684, 685, 686, 687, 688, 689, 690, 691] (by decide +kernel) (by decide +kernel)
set_option maxRecDepth 20000 in
theorem gL_law_X6_repair : GoodIn wsL_law (wsV RL 72 RX6 yX6_repair wsX6_repair) := goodIn_app (goodIn_of _ (by decide +kernel)) ggL_law_X6_repair
set_option maxRecDepth 20000 in
theorem ggL_law_X5_tokens : GoodIn wsL_law wsX5_tokens := goodIn_r _ [435, 32, 24, 640, 641, 642, 643, 644, 645, 646, 647, 648, 715, 716, 717, 718, 719, 720, 721, 722, 723, 724, 725, 726, 727, 728, 699, 700, 701, 702, 703, 704, 705, 706, 707, 708] (by decide +kernel) (by decide +kernel)
set_option maxRecDepth 20000 in
theorem gL_law_X5_tokens : GoodIn wsL_law (wsV RL 73 RX5 yX5_tokens wsX5_tokens) := goodIn_app (goodIn_of _ (by decide +kernel)) ggL_law_X5_tokens
set_option maxRecDepth 20000 in
theorem ggL_law_X6_tokens : GoodIn wsL_law wsX6_tokens := goodIn_r _ [439, 192, 194, 381, 649, 650, 651, 652, 653, 654, 655, 656, 657, 658, 659, 660, 661, 662, 663, 664, 665, 666, 667, 668, 669, 670, 671, 672, 673, 674, 675, 676, 677, 678, 679, 680, 681, 682, 683, 684, 685, 686, 687, 688, 689, 690, 691] (by decide +kernel) (by decide +kernel)
set_option maxRecDepth 20000 in
theorem gL_law_X6_tokens : GoodIn wsL_law (wsV RL 76 RX6 yX6_tokens wsX6_tokens) := goodIn_app (goodIn_of _ (by decide +kernel)) ggL_law_X6_tokens
set_option maxRecDepth 20000 in
theorem ggL_law_L_token : GoodIn wsL_law wsL_token := goodIn_ca (goodIn_r _ [442, 443, 444, 445, 446, 2, 447, 448, 449, 32, 24, 450, 451, 452, 23, 453, 62, 59, 454, 287, 288, 289, 58, 455, 456, 457, 458, 57, 640, 641, 642, 643, 644, 645, 646, 647, 648, 715, 716, 717, 718, 719, 720, 721, 722, 723, 724, 725, 726, 727, 728, 699, 700, 701, 702, 703, 704, 705, 706, 707, 708] (by decide +kernel) (by decide +kernel)) (goodIn_sub (fun _ h => List.mem_append_right _ h) (by decide +kernel))
set_option maxRecDepth 20000 in
theorem gL_law_L_token : GoodIn wsL_law (va_wsS RL 77 yL_token wsL_token) := goodIn_app (goodIn_of _ (by decide +kernel)) ggL_law_L_token
set_option maxRecDepth 20000 in
theorem ggL_law_X6_token : GoodIn wsL_law wsX6_token := goodIn_r _ [462, 192, 194, 381, 121, 118, 117, 463, 464, 5, 465, 195, 196, 197, 198, 649, 650, 651, 652, 653, 654, 655, 656, 657, 658, 659, 660, 661, 662, 663, 664, 665, 666, 667, 668, 669, 670, 671, 672, 673, 674, 675, 676, 677, 678, 679, 680, 681, 682, 683, 684, 685, 686, 687, 688, 689, 690, 691] (by decide +kernel) (by decide +kernel)
set_option maxRecDepth 20000 in
theorem gL_law_X6_token : GoodIn wsL_law (wsV RL 80 RX6 yX6_token wsX6_token) := goodIn_app (goodIn_of _ (by decide +kernel)) ggL_law_X6_token
set_option maxRecDepth 20000 in
theorem ggL_law_X5_parts : GoodIn wsL_law wsX5_parts := goodIn_r _ [469, 32, 640, 641, 642, 643, 644, 645, 646, 647, 648, 715, 716, 717, 718, 719, 720, 721, 722, 723, 724, 725, 726, 727, 728] (by decide +kernel) (by decide +kernel)
set_option maxRecDepth 20000 in
theorem gL_law_X5_parts : GoodIn wsL_law (wsV RL 81 RX5 yX5_parts wsX5_parts) := goodIn_app (goodIn_of _ (by decide +kernel)) ggL_law_X5_parts
set_option maxRecDepth 20000 in
theorem ggL_law_X6_parts : GoodIn wsL_law wsX6_parts := goodIn_r _ [473, 192, 194, 422, 649, 650, 651, 652, 653, 654, 655, 656, 657, 658, 659, 660, 661, 662, 663, 664, 665, 666, 667, 668, 669, 670, 671, 672, 673, 674, 675, 676, 677, 678, 679, 680, 681, 682, 683, 684, 685, 686, 687, 688, 689, 690, 691] (by decide +kernel) (by decide +kernel)
set_option maxRecDepth 20000 in
theorem gL_law_X6_parts : GoodIn wsL_law (wsV RL 84 RX6 yX6_parts wsX6_parts) := goodIn_app (goodIn_of _ (by decide +kernel)) ggL_law_X6_parts
set_option maxRecDepth 20000 in
theorem ggL_law_L_part : GoodIn wsL_law wsL_part := goodIn_ca (goodIn_r _ [476, 443, 477, 478, 479, 2, 480, 448, 449, 32, 375, 372, 373, 31, 374, 78, 640, 641, 642, 643, 644, 645, 646, 647, 648, 715, 716, 717, 718, 719, 720, 721, 722, 723, 724, 725, 726, 727, 728] (by decide +kernel) (by decide +kernel)) (goodIn_sub (fun _ h => List.mem_append_right _ h) (by decide +kernel))
set_option maxRecDepth 20000 in
theorem gL_law_L_part : GoodIn wsL_law (va_wsS RL 85 yL_part wsL_part) := goodIn_app (goodIn_of _ (by decide +kernel)) ggL_law_L_part
set_option maxRecDepth 20000 in
theorem ggL_law_X6_part : GoodIn wsL_law wsX6_part := goodIn_r _ [484, 192, 194, 422, 125, 126, 127, 129, 130, 131, 110, 118, 463, 464, 5, 465, 195, 196, 197, 198, 649, 650, 651, 652, 653, 654, 655, 656, 657, 658, 659, 660, 661, 662, 663, 664, 665, 666, 667, 668, 669, 670, 671, 672, 673, 674, 675, 676, 677, 678, 679, 680, 681, 682, 683, 684, 685, 686, 687, 688, 689, 690, 691] (by decide +kernel) (by decide +kernel)
set_option maxRecDepth 20000 in
theorem gL_law_X6_part : GoodIn wsL_law (wsV RL 87 RX6 yX6_part wsX6_part) := goodIn_app (goodIn_of _ (by decide +kernel)) ggL_law_X6_part
set_option maxRecDepth 20000 in
theorem ggL_law_L_rest : GoodIn wsL_law wsL_rest := goodIn_ca (goodIn_r _ [487, 144, 488, 489, 490, 2, 491, 151, 152, 32, 640, 641, 642, 643, 644, 645, 646, 647, 648, 715, 716, 717, 718, 719, 720, 721, 722, 723, 724, 725, 726, 727, 728] (by decide +kernel) (by decide +kernel)) (goodIn_sub (fun _ h => List.mem_append_left _ (List.mem_append_left _ (List.mem_append_right _ h))) (by decide +kernel))
set_option maxRecDepth 20000 in
theorem gL_law_L_rest : GoodIn wsL_law (va_wsS RL 88 yL_rest wsL_rest) := goodIn_app (goodIn_of _ (by decide +kernel)) ggL_law_L_rest
set_option maxRecDepth 20000 in
theorem ggL_law_X6_rest : GoodIn wsL_law wsX6_rest := goodIn_r _ [495, 192, 194, 381, 380, 195, 196, 197, 5, 198, 649, 650, 651, 652, 653, 654, 655, 656, 657, 658, 659, 660, 661, 662, 663, 664, 665, 666, 667, 668, 669, 670, 671, 672, 673, 674, 675, 676, 677, 678, 679, 680, 681, 682, 683, 684, 685, 686, 687, 688, 689, 690, 691] (by decide +kernel) (by decide +kernel)
set_option maxRecDepth 20000 in
theorem gL_law_X6_rest : GoodIn wsL_law (wsV RL 90 RX6 yX6_rest wsX6_rest) := goodIn_app (goodIn_of _ (by decide +kernel)) ggL_law_X6_rest
set_option maxRecDepth 20000 in
theorem ggL_law_L_print : GoodIn wsL_law wsL_print := goodIn_ca (goodIn_ca (goodIn_r _ [498, 143, 144, 499, 500, 501, 2, 502, 149, 150, 151, 152, 32, 36, 503, 504, 505, 35, 506, 100, 101, 104, 507, 508, 509, 510, 97, 511, 512, 513, 31, 514, 371, 372, 373, 374, 78, 515, 516, 517, 518, 519, 250, 247, 251, 103, 520, 521, 522, 523, 23, 524, 59, 61, 60, 525, 456, 457, 458, 62, 57, 526, 451, 452, 453, 527, 528, 529, 530, 531, 532, 533, 534, 535, 536, 537, 538, 54, 56, 272, 273, 539, 540, 541, 542, 98, 99, 102, 543, 544, 545, 546, 547, 548, 549, 550, 96, 551, 552, 553, 554, 555, 556, 557, 558, 559, 560, 561, 562, 563, 564, 565, 566, 567, 640, 641, 642, 643, 644, 645, 646, 647, 648, 715, 716, 717, 718, 719, 720, 721, 722, 723, 724, 725, 726, 727, 728, 729, 730, 731, 732, 733, 734, 735, 736, 737, 699, 700, 701, 702, 703, 704, 705, 706, 707, 708, 692, 693, 694, 695, 696, 697, 698] (by decide +kernel) (by decide +kernel)) (goodIn_sub (fun _ h => List.mem_append_left _ (List.mem_append_left _ (List.mem_append_left _ (List.mem_append_right _ h)))) (by decide +kernel))) (goodIn_sub (fun _ h => List.mem_append_left _ (List.mem_append_left _ (List.mem_append_right _ h))) (by decide +kernel))
set_option maxRecDepth 20000 in
theorem gL_law_L_print : GoodIn wsL_law (va_wsS RL 91 yL_print wsL_print) := goodIn_app (goodIn_of _ (by decide +kernel)) ggL_law_L_print
set_option maxRecDepth 20000 in
theorem ggL_law_X6_print : GoodIn wsL_law wsX6_print := goodIn_r _ [571, 192, 194, 572, 573, 422, 126, 134, 129, 130, 380, 381, 121, 195, 196, 197, 5, 198, 574, 575, 576, 577, 136, 137, 135, 115, 116, 127, 578, 579, 580, 581, 120, 117, 582, 583, 584, 585, 112, 125, 128, 586, 587, 588, 589, 590, 591, 592, 593, 594, 595, 596, 113, 597, 598, 599, 600, 138, 601, 602, 603, 604, 605, 606, 607, 608, 119, 649, 650, 651, 652, 653, 654, 655, 656, 657, 658, 659, 660, 661, 662, 663, 664, 665, 666, 667, 668, 669, 670, 671, 672, 673, 674, 675, 676, 677, 678, 679, 680, 681, 682, 683, 684, 685, 686, 687, 688, 689, 690, 691] (by decide +kernel) (by decide +kernel)
set_option maxRecDepth 20000 in
theorem gL_law_X6_print : GoodIn wsL_law (wsV RL 94 RX6 yX6_print wsX6_print) := goodIn_app (goodIn_of _ (by decide +kernel)) ggL_law_X6_print
set_option maxRecDepth 20000 in
theorem ggL_law_L_character : GoodIn wsL_law wsL_character := goodIn_ca (goodIn_r _ [611, 443, 612, 613, 614, 2, 615, 448, 449, 36, 616, 617, 618, 35, 619, 100, 96, 640, 641, 642, 643, 644, 645, 646, 647, 648, 729, 730, 731, 732, 733, 734, 735, 736, 737] (by decide +kernel) (by decide +kernel)) (goodIn_sub (fun _ h => List.mem_append_right _ h) (by decide +kernel))
set_option maxRecDepth 20000 in
theorem gL_law_L_character : GoodIn wsL_law (va_wsS RL 95 yL_character wsL_character) := goodIn_app (goodIn_of _ (by decide +kernel)) ggL_law_L_character
set_option maxRecDepth 20000 in
theorem ggL_law_X6_character : GoodIn wsL_law wsX6_character := goodIn_r _ [623, 192, 572, 138, 463, 464, 5, 465, 195, 196, 197, 198, 649, 650, 651, 652, 653, 654, 655, 656, 657, 658, 659, 660, 661, 662, 663, 664, 665, 666, 667, 668, 669, 670, 671, 672, 673, 674, 675, 676, 677, 678, 679, 680, 681, 682, 683, 684, 685, 686, 687, 688, 689, 690, 691] (by decide +kernel) (by decide +kernel)
set_option maxRecDepth 20000 in
theorem gL_law_X6_character : GoodIn wsL_law (wsV RL 97 RX6 yX6_character wsX6_character) := goodIn_app (goodIn_of _ (by decide +kernel)) ggL_law_X6_character
set_option maxRecDepth 20000 in
theorem ggL_law_X5_grounded : GoodIn wsL_law wsX5_grounded := goodIn_r _ [627, 17, 240, 177, 178, 16, 179, 49, 158, 2, 159, 640, 641, 642, 643, 644, 645, 646, 647, 648, 692, 693, 694, 695, 696, 697, 698] (by decide +kernel) (by decide +kernel)
set_option maxRecDepth 20000 in
theorem gL_law_X5_grounded : GoodIn wsL_law (wsV RL 98 RX5 yX5_grounded wsX5_grounded) := goodIn_app (goodIn_of _ (by decide +kernel)) ggL_law_X5_grounded
set_option maxRecDepth 20000 in
theorem ggL_law_X6_grounded : GoodIn wsL_law wsX6_grounded := goodIn_r _ [631, 192, 385, 386, 387, 5, 388, 193, 110, 111, 109, 649, 650, 651, 652, 653, 654, 655, 656, 657, 658, 659, 660, 661, 662, 663, 664, 665, 666, 667, 668, 669, 670, 671, 672, 673, 674, 675, 676, 677, 678, 679, 680, 681, 682, 683, 684, 685, 686, 687, 688, 689, 690, 691] (by decide +kernel) (by decide +kernel)
set_option maxRecDepth 20000 in
theorem gL_law_X6_grounded : GoodIn wsL_law (wsV RL 102 RX6 yX6_grounded wsX6_grounded) := goodIn_app (goodIn_of _ (by decide +kernel)) ggL_law_X6_grounded
set_option maxRecDepth 20000 in
theorem ggL_law_X5_count : GoodIn wsL_law wsX5_count := goodIn_r _ [635, 17, 37, 38, 640, 641, 642, 643, 644, 645, 646, 647, 648, 692, 693, 694, 695, 696, 697, 698] (by decide +kernel) (by decide +kernel)
set_option maxRecDepth 20000 in
theorem gL_law_X5_count : GoodIn wsL_law (wsV RL 103 RX5 yX5_count wsX5_count) := goodIn_app (goodIn_of _ (by decide +kernel)) ggL_law_X5_count
set_option maxRecDepth 20000 in
theorem ggL_law_X6_count : GoodIn wsL_law wsX6_count := goodIn_r _ [639, 192, 193, 383, 384, 649, 650, 651, 652, 653, 654, 655, 656, 657, 658, 659, 660, 661, 662, 663, 664, 665, 666, 667, 668, 669, 670, 671, 672, 673, 674, 675, 676, 677, 678, 679, 680, 681, 682, 683, 684, 685, 686, 687, 688, 689, 690, 691] (by decide +kernel) (by decide +kernel)
set_option maxRecDepth 20000 in
theorem gL_law_X6_count : GoodIn wsL_law (wsV RL 106 RX6 yX6_count wsX6_count) := goodIn_app (goodIn_of _ (by decide +kernel)) ggL_law_X6_count
