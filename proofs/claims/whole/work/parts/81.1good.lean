set_option maxRecDepth 20000 in
theorem ggX5_rule_X2_symbolsIn : GoodIn wsX5_rule wsX2_symbolsIn := goodIn_r _ [10, 11] (by decide +kernel) (by decide +kernel)
set_option maxRecDepth 20000 in
theorem gX5_rule_X2_symbolsIn : GoodIn wsX5_rule (va_wsS RX5 64 yX2_symbolsIn wsX2_symbolsIn) := goodIn_app (goodIn_of _ (by decide +kernel)) ggX5_rule_X2_symbolsIn
set_option maxRecDepth 20000 in
theorem ggX5_rule_X5_isKind : GoodIn wsX5_rule wsX5_isKind := goodIn_r _ [15] (by decide +kernel) (by decide +kernel)
set_option maxRecDepth 20000 in
theorem gX5_rule_X5_isKind : GoodIn wsX5_rule (va_wsS RX5 68 yX5_isKind wsX5_isKind) := goodIn_app (goodIn_of _ (by decide +kernel)) ggX5_rule_X5_isKind
set_option maxRecDepth 20000 in
theorem ggX5_rule_X2_hintsFit : GoodIn wsX5_rule wsX2_hintsFit := goodIn_r _ [18] (by decide +kernel) (by decide +kernel)
set_option maxRecDepth 20000 in
theorem gX5_rule_X2_hintsFit : GoodIn wsX5_rule (va_wsS RX5 72 yX2_hintsFit wsX2_hintsFit) := goodIn_app (goodIn_of _ (by decide +kernel)) ggX5_rule_X2_hintsFit
set_option maxRecDepth 20000 in
theorem ggX5_rule_X4_drop : GoodIn wsX5_rule wsX4_drop := goodIn_r _ [23, 24, 25, 70, 71, 72, 73, 74, 75, 76, 77, 78, 79, 80, 81, 82, 83] (by decide +kernel) (by decide +kernel)
set_option maxRecDepth 20000 in
theorem gX5_rule_X4_drop : GoodIn wsX5_rule (wsV RX5 91 RX4 yX4_drop wsX4_drop) := goodIn_app (goodIn_of _ (by decide +kernel)) ggX5_rule_X4_drop
set_option maxRecDepth 20000 in
theorem ggX5_rule_X2_add : GoodIn wsX5_rule wsX2_add := goodIn_r _ [29, 30, 31, 32, 33, 34, 35, 36, 8, 9, 10, 11, 37, 38, 39, 40, 41, 42, 43, 44, 45, 13, 14, 15, 46, 47, 48, 49, 50, 51, 52, 53, 63, 64, 65, 66, 67, 68, 69] (by decide +kernel) (by decide +kernel)
set_option maxRecDepth 20000 in
theorem gX5_rule_X2_add : GoodIn wsX5_rule (wsV RX5 94 RX2 yX2_add wsX2_add) := goodIn_app (goodIn_of _ (by decide +kernel)) ggX5_rule_X2_add
set_option maxRecDepth 20000 in
theorem ggX5_write_X5_areCharacters : GoodIn wsX5_write wsX5_areCharacters := goodIn_r _ [10, 11, 12, 9, 13] (by decide +kernel) (by decide +kernel)
set_option maxRecDepth 20000 in
theorem gX5_write_X5_areCharacters : GoodIn wsX5_write (va_wsS RX5 98 yX5_areCharacters wsX5_areCharacters) := goodIn_app (goodIn_of _ (by decide +kernel)) ggX5_write_X5_areCharacters
set_option maxRecDepth 20000 in
theorem ggX5_write_X5_byteOf : GoodIn wsX5_write wsX5_byteOf := goodIn_r _ [13] (by decide +kernel) (by decide +kernel)
set_option maxRecDepth 20000 in
theorem gX5_write_X5_byteOf : GoodIn wsX5_write (va_wsS RX5 106 yX5_byteOf wsX5_byteOf) := goodIn_app (goodIn_of _ (by decide +kernel)) ggX5_write_X5_byteOf
set_option maxRecDepth 20000 in
theorem ggX5_repair_X2_hasGround : GoodIn wsX5_repair wsX2_hasGround := goodIn_r _ [17, 18, 19, 20, 21, 232, 233, 234, 235, 236, 237, 238] (by decide +kernel) (by decide +kernel)
set_option maxRecDepth 20000 in
theorem gX5_repair_X2_hasGround : GoodIn wsX5_repair (wsV RX5 110 RX2 yX2_hasGround wsX2_hasGround) := goodIn_app (goodIn_of _ (by decide +kernel)) ggX5_repair_X2_hasGround
set_option maxRecDepth 20000 in
theorem ggX5_repair_X4_drop : GoodIn wsX5_repair wsX4_drop := goodIn_r _ [26, 27, 28, 218, 219, 220, 221, 222, 223, 224, 225, 226, 227, 228, 229, 230, 231] (by decide +kernel) (by decide +kernel)
set_option maxRecDepth 20000 in
theorem gX5_repair_X4_drop : GoodIn wsX5_repair (wsV RX5 91 RX4 yX4_drop wsX4_drop) := goodIn_app (goodIn_of _ (by decide +kernel)) ggX5_repair_X4_drop
set_option maxRecDepth 20000 in
theorem ggX5_repair_X1_read : GoodIn wsX5_repair wsX1_read := goodIn_r _ [33, 34, 35, 36, 37, 38, 39, 40, 41, 42, 43, 44, 45, 46, 47, 48, 49, 50, 51, 52, 32, 53, 54, 55, 56, 57, 58, 59, 60, 61, 62, 63, 64, 65, 66, 67, 68, 69, 70, 71, 20, 72, 208, 209, 210, 211, 212, 213, 214, 215, 216, 217] (by decide +kernel) (by decide +kernel)
set_option maxRecDepth 20000 in
theorem gX5_repair_X1_read : GoodIn wsX5_repair (wsV RX5 118 RX1 yX1_read wsX1_read) := goodIn_app (goodIn_of _ (by decide +kernel)) ggX5_repair_X1_read
set_option maxRecDepth 20000 in
theorem ggX5_repair_X0_fill : GoodIn wsX5_repair wsX0_fill := goodIn_r _ [77, 78, 79, 80, 81, 76, 82, 83, 84, 85, 86, 87, 88, 89, 90, 32, 91, 47, 56, 92, 93, 94, 95, 96, 97, 98, 99, 100, 101, 102, 103, 104, 105, 106, 107, 108, 109, 110, 111, 112, 16, 113, 114, 115, 116, 117, 118, 119, 120, 36, 121, 122, 123, 124, 125, 126, 127, 128, 129, 130, 131, 132, 133, 239, 240, 241, 242, 243, 244, 208, 209, 210, 211, 212, 213, 214, 215, 216, 217, 232, 233, 234, 235, 236, 237, 238] (by decide +kernel) (by decide +kernel)
set_option maxRecDepth 20000 in
theorem gX5_repair_X0_fill : GoodIn wsX5_repair (wsV RX5 124 RX0 yX0_fill wsX0_fill) := goodIn_app (goodIn_of _ (by decide +kernel)) ggX5_repair_X0_fill
set_option maxRecDepth 20000 in
theorem ggX5_repair_X4_grow : GoodIn wsX5_repair wsX4_grow := goodIn_r _ [137, 138, 139, 28, 140, 141, 142, 76, 143, 96, 78, 83, 85, 86, 87, 144, 23, 24, 25, 26, 27, 145, 146, 147, 148, 149, 150, 151, 152, 153, 154, 155, 156, 157, 158, 159, 160, 161, 162, 163, 164, 19, 20, 21, 165, 166, 167, 168, 169, 170, 171, 172, 173, 174, 97, 98, 99, 100, 175, 176, 177, 178, 105, 179, 180, 181, 182, 183, 119, 120, 36, 121, 110, 111, 112, 16, 113, 114, 184, 185, 186, 187, 188, 189, 190, 191, 192, 193, 194, 195, 196, 197, 218, 219, 220, 221, 222, 223, 224, 225, 226, 227, 228, 229, 230, 231, 239, 240, 241, 242, 243, 244, 208, 209, 210, 211, 212, 213, 214, 215, 216, 217, 232, 233, 234, 235, 236, 237, 238] (by decide +kernel) (by decide +kernel)
set_option maxRecDepth 20000 in
theorem gX5_repair_X4_grow : GoodIn wsX5_repair (wsV RX5 128 RX4 yX4_grow wsX4_grow) := goodIn_app (goodIn_of _ (by decide +kernel)) ggX5_repair_X4_grow
set_option maxRecDepth 20000 in
theorem ggX5_repair_X4_cell : GoodIn wsX5_repair wsX4_cell := goodIn_r _ [197, 158, 218, 219, 220, 221, 222, 223, 224, 225, 226, 227, 228, 229, 230, 231] (by decide +kernel) (by decide +kernel)
set_option maxRecDepth 20000 in
theorem gX5_repair_X4_cell : GoodIn wsX5_repair (wsV RX5 133 RX4 yX4_cell wsX4_cell) := goodIn_app (goodIn_of _ (by decide +kernel)) ggX5_repair_X4_cell
set_option maxRecDepth 20000 in
theorem ggX5_token_X1_commentsOf : GoodIn wsX5_token wsX1_commentsOf := goodIn_r _ [9, 10, 11, 45, 46, 47, 48, 49, 50, 51, 52, 53, 54] (by decide +kernel) (by decide +kernel)
set_option maxRecDepth 20000 in
theorem gX5_token_X1_commentsOf : GoodIn wsX5_token (wsV RX5 146 RX1 yX1_commentsOf wsX1_commentsOf) := goodIn_app (goodIn_of _ (by decide +kernel)) ggX5_token_X1_commentsOf
set_option maxRecDepth 20000 in
theorem ggX5_token_X1_signOf : GoodIn wsX5_token wsX1_signOf := goodIn_r _ [15, 10, 16, 45, 46, 47, 48, 49, 50, 51, 52, 53, 54] (by decide +kernel) (by decide +kernel)
set_option maxRecDepth 20000 in
theorem gX5_token_X1_signOf : GoodIn wsX5_token (wsV RX5 149 RX1 yX1_signOf wsX1_signOf) := goodIn_app (goodIn_of _ (by decide +kernel)) ggX5_token_X1_signOf
set_option maxRecDepth 20000 in
theorem ggX5_token_X1_lengthOf : GoodIn wsX5_token wsX1_lengthOf := goodIn_r _ [20, 10, 21, 45, 46, 47, 48, 49, 50, 51, 52, 53, 54] (by decide +kernel) (by decide +kernel)
set_option maxRecDepth 20000 in
theorem gX5_token_X1_lengthOf : GoodIn wsX5_token (wsV RX5 152 RX1 yX1_lengthOf wsX1_lengthOf) := goodIn_app (goodIn_of _ (by decide +kernel)) ggX5_token_X1_lengthOf
set_option maxRecDepth 20000 in
theorem ggX5_part_X4_cell : GoodIn wsX5_part wsX4_cell := goodIn_r _ [8, 9, 19, 20, 21, 22, 23, 24, 25, 26, 27, 28, 29, 30, 31, 32] (by decide +kernel) (by decide +kernel)
set_option maxRecDepth 20000 in
theorem gX5_part_X4_cell : GoodIn wsX5_part (wsV RX5 133 RX4 yX4_cell wsX4_cell) := goodIn_app (goodIn_of _ (by decide +kernel)) ggX5_part_X4_cell
set_option maxRecDepth 20000 in
theorem ggX5_print_X3_layOut : GoodIn wsX5_print wsX3_layOut := goodIn_r _ [11, 12, 13, 14, 15, 16, 17, 10, 18, 19, 20, 21, 22, 23, 24, 25, 26, 27, 28, 29, 30, 31, 32, 33, 34, 35, 36, 37, 38, 39, 40, 41, 42, 43, 44, 45, 46, 47, 48, 49, 50, 51, 52, 53, 54, 55, 56, 57, 58, 59, 60, 61, 62, 63, 64, 65, 66, 67, 68, 69, 70, 71, 72, 73, 74, 75, 76, 77, 78, 79, 80, 81, 82, 83, 84, 85, 86, 87, 88, 89, 90, 91, 92, 93, 94, 95, 96, 97, 98, 99, 100, 101, 102, 103, 104, 105, 106, 107, 131, 132, 133, 134, 135, 136, 137, 138, 139, 117, 118, 119, 120, 121, 122, 123, 124, 125, 126, 127, 128, 129, 130, 140, 141, 142, 143, 144, 145, 146, 147, 148, 149, 150, 151, 152, 153, 154, 155, 156] (by decide +kernel) (by decide +kernel)
set_option maxRecDepth 20000 in
theorem gX5_print_X3_layOut : GoodIn wsX5_print (wsV RX5 161 RX3 yX3_layOut wsX3_layOut) := goodIn_app (goodIn_of _ (by decide +kernel)) ggX5_print_X3_layOut
set_option maxRecDepth 20000 in
theorem ggX5_character_X3_at : GoodIn wsX5_character wsX3_at := goodIn_r _ [8, 9, 10, 20, 21, 22, 23, 24, 25, 26, 27, 28] (by decide +kernel) (by decide +kernel)
set_option maxRecDepth 20000 in
theorem gX5_character_X3_at : GoodIn wsX5_character (wsV RX5 168 RX3 yX3_at wsX3_at) := goodIn_app (goodIn_of _ (by decide +kernel)) ggX5_character_X3_at
set_option maxRecDepth 20000 in
theorem ggL_rule_X5_rule : GoodIn wsL_rule wsX5_rule := goodIn_ca (goodIn_ca (goodIn_r _ [7, 8, 9, 10, 11, 12, 13, 14, 15, 16, 17, 18, 19, 20, 6, 21, 22, 23, 24, 25, 26, 27, 28, 29, 30, 31, 32, 33, 34, 35, 36, 37, 38, 39, 40, 41, 42, 43, 44, 45, 46, 47, 48, 49, 50, 51, 52, 53, 54, 55, 56, 57, 58, 59, 60, 61, 62, 63, 64, 65, 66, 67, 68, 69, 70, 71, 72, 73, 74, 75, 76, 77, 78, 79, 80, 81, 82, 83, 84, 85, 86, 87, 88, 89] (by decide +kernel) (by decide +kernel)) (goodIn_sub (fun _ h => List.mem_cons_of_mem _ (List.mem_append_left _ (List.mem_append_right _ h))) (by decide +kernel))) (goodIn_sub (fun _ h => List.mem_cons_of_mem _ (List.mem_append_right _ h)) (by decide +kernel))
set_option maxRecDepth 20000 in
theorem gL_rule_X5_rule : GoodIn wsL_rule (wsV RL 7 RX5 yX5_rule wsX5_rule) := goodIn_app (goodIn_of _ (by decide +kernel)) ggL_rule_X5_rule
set_option maxRecDepth 20000 in
theorem ggL_write_X5_write : GoodIn wsL_write wsX5_write := goodIn_ca (goodIn_ca (goodIn_r _ [7, 8, 9, 10, 11, 12, 13, 14, 15, 6, 16, 17, 18, 19, 20, 21, 22, 23, 24, 25, 26, 27, 28] (by decide +kernel) (by decide +kernel)) (goodIn_sub (fun _ h => List.mem_cons_of_mem _ (List.mem_append_left _ (List.mem_append_right _ h))) (by decide +kernel))) (goodIn_sub (fun _ h => List.mem_cons_of_mem _ (List.mem_append_right _ h)) (by decide +kernel))
set_option maxRecDepth 20000 in
theorem gL_write_X5_write : GoodIn wsL_write (wsV RL 17 RX5 yX5_write wsX5_write) := goodIn_app (goodIn_of _ (by decide +kernel)) ggL_write_X5_write
set_option maxRecDepth 20000 in
theorem ggL_repair_X5_repair : GoodIn wsL_repair wsX5_repair := goodIn_ca (goodIn_ca (goodIn_r _ [7, 8, 9, 10, 11, 12, 13, 14, 15, 16, 17, 18, 19, 20, 21, 22, 23, 24, 25, 26, 6, 27, 28, 29, 30, 31, 32, 33, 34, 35, 36, 37, 38, 39, 40, 41, 42, 43, 44, 45, 46, 47, 48, 49, 50, 51, 52, 53, 54, 55, 56, 57, 58, 59, 60, 61, 62, 63, 64, 65, 66, 67, 68, 69, 70, 71, 72, 73, 74, 75, 76, 77, 78, 79, 80, 81, 82, 83, 84, 85, 86, 87, 88, 89, 90, 91, 92, 93, 94, 95, 96, 97, 98, 99, 100, 101, 102, 103, 104, 105, 106, 107, 108, 109, 110, 111, 112, 113, 114, 115, 116, 117, 118, 119, 120, 121, 122, 123, 124, 125, 126, 127, 128, 129, 130, 131, 132, 133, 134, 135, 136, 137, 138, 139, 140, 141, 142, 143, 144, 145, 146, 147, 148, 149, 150, 151, 152, 153, 154, 155, 156, 157, 158, 159, 160, 161, 162, 163, 164, 165, 166, 167, 168, 169, 170, 171, 172, 173, 174, 175, 176, 177, 178, 179, 180, 181, 182, 183, 184, 185, 186, 187, 188, 189, 190, 191, 192, 193, 194, 195, 196, 197, 198, 199, 200, 201, 202, 203, 204, 205, 206, 207, 208, 209, 210, 211, 212, 213, 214, 215, 216, 217, 218, 219, 220, 221, 222, 223, 224, 225, 226, 227, 228, 229, 230, 231, 232, 233, 234, 235, 236, 237, 238, 239, 240, 241, 242, 243, 244, 245, 246, 247, 248, 249, 250] (by decide +kernel) (by decide +kernel)) (goodIn_sub (fun _ h => List.mem_cons_of_mem _ (List.mem_append_left _ (List.mem_append_right _ h))) (by decide +kernel))) (goodIn_sub (fun _ h => List.mem_cons_of_mem _ (List.mem_append_right _ h)) (by decide +kernel))
set_option maxRecDepth 20000 in
theorem gL_repair_X5_repair : GoodIn wsL_repair (wsV RL 21 RX5 yX5_repair wsX5_repair) := goodIn_app (goodIn_of _ (by decide +kernel)) ggL_repair_X5_repair
set_option maxRecDepth 20000 in
theorem ggL_token_X5_token : GoodIn wsL_token wsX5_token := goodIn_ca (goodIn_r _ [6, 7, 8, 9, 10, 11, 12, 13, 14, 15, 16, 17, 18, 19, 20, 21, 22, 23, 24, 25, 26, 27, 28, 29, 30, 31, 32, 33, 34, 35, 36, 37, 38, 39, 40, 41, 42, 43, 44, 45, 46, 47, 48, 49, 50, 51, 52, 53, 54, 55, 56, 57, 58, 59, 60] (by decide +kernel) (by decide +kernel)) (goodIn_sub (fun _ h => List.mem_cons_of_mem _ (List.mem_append_right _ h)) (by decide +kernel))
set_option maxRecDepth 20000 in
theorem gL_token_X5_token : GoodIn wsL_token (wsV RL 27 RX5 yX5_token wsX5_token) := goodIn_app (goodIn_of _ (by decide +kernel)) ggL_token_X5_token
set_option maxRecDepth 20000 in
theorem ggL_part_X5_part : GoodIn wsL_part wsX5_part := goodIn_ca (goodIn_r _ [6, 7, 8, 9, 10, 11, 12, 13, 14, 15, 16, 17, 18, 19, 20, 21, 22, 23, 24, 25, 26, 27, 28, 29, 30, 31, 32, 33, 34, 35, 36, 37, 38] (by decide +kernel) (by decide +kernel)) (goodIn_sub (fun _ h => List.mem_cons_of_mem _ (List.mem_append_right _ h)) (by decide +kernel))
set_option maxRecDepth 20000 in
theorem gL_part_X5_part : GoodIn wsL_part (wsV RL 33 RX5 yX5_part wsX5_part) := goodIn_app (goodIn_of _ (by decide +kernel)) ggL_part_X5_part
set_option maxRecDepth 20000 in
theorem ggL_rest_X5_rest : GoodIn wsL_rest wsX5_rest := goodIn_ca (goodIn_r _ [6, 7, 8, 9, 10, 11, 12, 13, 14, 15, 16, 17, 18, 19, 20, 21, 22, 23, 24, 25, 26, 27, 28, 29, 30, 31, 32] (by decide +kernel) (by decide +kernel)) (goodIn_sub (fun _ h => List.mem_cons_of_mem _ (List.mem_append_right _ h)) (by decide +kernel))
set_option maxRecDepth 20000 in
theorem gL_rest_X5_rest : GoodIn wsL_rest (wsV RL 36 RX5 yX5_rest wsX5_rest) := goodIn_app (goodIn_of _ (by decide +kernel)) ggL_rest_X5_rest
set_option maxRecDepth 20000 in
theorem ggL_print_X5_print : GoodIn wsL_print wsX5_print := goodIn_ca (goodIn_ca (goodIn_r _ [7, 8, 9, 10, 11, 12, 13, 14, 15, 16, 17, 18, 19, 20, 21, 22, 23, 24, 25, 26, 27, 28, 29, 30, 31, 32, 33, 34, 35, 36, 37, 38, 39, 40, 41, 42, 43, 44, 45, 46, 47, 48, 49, 50, 51, 52, 53, 54, 55, 56, 57, 58, 59, 60, 61, 62, 63, 64, 65, 66, 67, 68, 69, 70, 71, 72, 73, 74, 75, 76, 77, 78, 79, 6, 80, 81, 82, 83, 84, 85, 86, 87, 88, 89, 90, 91, 92, 93, 94, 95, 96, 97, 98, 99, 100, 101, 102, 103, 104, 105, 106, 107, 108, 109, 110, 111, 112, 113, 114, 115, 116, 117, 118, 119, 120, 121, 122, 123, 124, 125, 126, 127, 128, 129, 130, 131, 132, 133, 134, 135, 136, 137, 138, 139, 140, 141, 142, 143, 144, 145, 146, 147, 148, 149, 150, 151, 152, 153, 154, 155, 156, 157, 158, 159, 160, 161, 162] (by decide +kernel) (by decide +kernel)) (goodIn_sub (fun _ h => List.mem_cons_of_mem _ (List.mem_append_left _ (List.mem_append_right _ h))) (by decide +kernel))) (goodIn_sub (fun _ h => List.mem_cons_of_mem _ (List.mem_append_right _ h)) (by decide +kernel))
set_option maxRecDepth 20000 in
theorem gL_print_X5_print : GoodIn wsL_print (wsV RL 39 RX5 yX5_print wsX5_print) := goodIn_app (goodIn_of _ (by decide +kernel)) ggL_print_X5_print
set_option maxRecDepth 20000 in
theorem ggL_character_X5_character : GoodIn wsL_character wsX5_character := goodIn_ca (goodIn_r _ [6, 7, 8, 9, 10, 11, 12, 13, 14, 15, 16, 17, 18, 19, 20, 21, 22, 23, 24, 25, 26, 27, 28, 29, 30, 31, 32, 33, 34] (by decide +kernel) (by decide +kernel)) (goodIn_sub (fun _ h => List.mem_cons_of_mem _ (List.mem_append_right _ h)) (by decide +kernel))
set_option maxRecDepth 20000 in
theorem gL_character_X5_character : GoodIn wsL_character (wsV RL 43 RX5 yX5_character wsX5_character) := goodIn_app (goodIn_of _ (by decide +kernel)) ggL_character_X5_character
