set_option maxRecDepth 20000 in
theorem ggL_act_L_below : GoodIn wsL_act wsL_below := goodIn_r _ [17, 18] (by decide +kernel) (by decide +kernel)
set_option maxRecDepth 20000 in
theorem gL_act_L_below : GoodIn wsL_act (va_wsS RL 23 yL_below wsL_below) := goodIn_app (goodIn_of _ (by decide +kernel)) ggL_act_L_below
set_option maxRecDepth 20000 in
theorem ggL_act_X4_init : GoodIn wsL_act wsX4_init := goodIn_r _ [20, 21, 22, 23, 24, 251, 252, 253, 254, 255, 256, 257, 258, 259, 260] (by decide +kernel) (by decide +kernel)
set_option maxRecDepth 20000 in
theorem gL_act_X4_init_n31 : GoodIn wsL_act (wsX4_init) := ggL_act_X4_init
set_option maxRecDepth 20000 in
theorem ggL_act_X3_build : GoodIn wsL_act wsX3_build := goodIn_ca (goodIn_ca (goodIn_ca (goodIn_r _ [29, 30, 31, 32, 33, 34, 35, 36, 37, 38, 39, 40, 41, 42, 43, 44, 45, 46, 47, 48, 49, 50, 28, 51, 52, 53, 54, 55, 56, 22, 23, 57, 58, 59, 60, 61, 62, 63, 64, 65, 66, 67, 68, 69, 70, 71, 72, 73, 74, 75, 76, 77, 78, 79, 80, 81, 82, 83, 84, 85, 86, 87, 88, 89, 90, 91, 92, 93, 94, 95, 96, 97, 98, 99, 100, 101, 102, 103, 104, 105, 106, 107, 108, 109, 110, 111, 112, 113, 261, 262, 263, 264, 265, 266, 267, 268, 269, 270, 271, 272, 273, 274, 275, 276, 277, 278, 279, 280, 281, 282, 283] (by decide +kernel) (by decide +kernel)) (goodIn_sub (fun _ h => List.mem_cons_of_mem _ (List.mem_append_left _ (List.mem_append_left _ (List.mem_append_right _ h)))) (by decide +kernel))) (goodIn_sub (fun _ h => List.mem_cons_of_mem _ (List.mem_append_left _ (List.mem_append_right _ h))) (by decide +kernel))) (goodIn_sub (fun _ h => List.mem_cons_of_mem _ (List.mem_append_right _ h)) (by decide +kernel))
set_option maxRecDepth 20000 in
theorem gL_act_X3_build : GoodIn wsL_act (wsV RL 38 RX3 yX3_build wsX3_build) := goodIn_app (goodIn_of _ (by decide +kernel)) ggL_act_X3_build
set_option maxRecDepth 20000 in
theorem ggL_act_X3_ballast : GoodIn wsL_act wsX3_ballast := goodIn_ca (goodIn_ca (goodIn_ca (goodIn_r _ [117, 32, 33, 118, 119, 120, 121, 28, 122, 36, 37, 123, 124, 125, 126, 127, 30, 31, 42, 43, 44, 45, 46, 47, 128, 129, 130, 131, 132, 133, 134, 135, 136, 137, 138, 139, 140, 141, 142, 143, 66, 48, 49, 50, 51, 34, 35, 52, 270, 271, 272, 273, 274, 275, 276, 277, 278, 279, 280, 261, 262, 263, 264, 265, 266, 267, 268, 269, 281, 282, 283] (by decide +kernel) (by decide +kernel)) (goodIn_sub (fun _ h => List.mem_cons_of_mem _ (List.mem_append_left _ (List.mem_append_right _ h))) (by decide +kernel))) (goodIn_sub (fun _ h => List.mem_cons_of_mem _ (List.mem_append_left _ (List.mem_append_left _ (List.mem_append_right _ h)))) (by decide +kernel))) (goodIn_sub (fun _ h => List.mem_cons_of_mem _ (List.mem_append_right _ h)) (by decide +kernel))
set_option maxRecDepth 20000 in
theorem gL_act_X3_ballast : GoodIn wsL_act (wsV RL 46 RX3 yX3_ballast wsX3_ballast) := goodIn_app (goodIn_of _ (by decide +kernel)) ggL_act_X3_ballast
set_option maxRecDepth 20000 in
theorem ggL_act_X3_judge : GoodIn wsL_act wsX3_judge := goodIn_ca (goodIn_ca (goodIn_r _ [147, 32, 33, 34, 35, 148, 149, 150, 151, 152, 153, 154, 155, 156, 157, 96, 158, 159, 160, 161, 162, 163, 164, 10, 107, 108, 82, 109, 110, 111, 112, 113, 261, 262, 263, 264, 284, 285, 286] (by decide +kernel) (by decide +kernel)) (goodIn_sub (fun _ h => List.mem_cons_of_mem _ (List.mem_append_left _ (List.mem_append_right _ h))) (by decide +kernel))) (goodIn_sub (fun _ h => List.mem_cons_of_mem _ (List.mem_append_right _ h)) (by decide +kernel))
set_option maxRecDepth 20000 in
theorem gL_act_X3_judge : GoodIn wsL_act (wsV RL 49 RX3 yX3_judge wsX3_judge) := goodIn_app (goodIn_of _ (by decide +kernel)) ggL_act_X3_judge
set_option maxRecDepth 20000 in
theorem ggL_act_X3_setWind : GoodIn wsL_act wsX3_setWind := goodIn_ca (goodIn_ca (goodIn_r _ [168, 30, 31, 148, 169, 170, 171, 28, 172, 32, 33, 173, 174, 175, 153, 176, 177, 178, 179, 180, 181, 261, 262, 263, 264, 284, 285, 286] (by decide +kernel) (by decide +kernel)) (goodIn_sub (fun _ h => List.mem_cons_of_mem _ (List.mem_append_left _ (List.mem_append_left _ (List.mem_append_right _ h)))) (by decide +kernel))) (goodIn_sub (fun _ h => List.mem_cons_of_mem _ (List.mem_append_left _ (List.mem_append_right _ h))) (by decide +kernel))
set_option maxRecDepth 20000 in
theorem gL_act_X3_setWind : GoodIn wsL_act (wsV RL 56 RX3 yX3_setWind wsX3_setWind) := goodIn_app (goodIn_of _ (by decide +kernel)) ggL_act_X3_setWind
set_option maxRecDepth 20000 in
theorem ggL_act_X3_pond : GoodIn wsL_act wsX3_pond := goodIn_ca (goodIn_ca (goodIn_r _ [185, 32, 33, 148, 186, 48, 49, 50, 28, 51, 34, 35, 36, 52, 261, 262, 263, 264, 284, 285, 286, 265, 266, 267, 268, 269] (by decide +kernel) (by decide +kernel)) (goodIn_sub (fun _ h => List.mem_cons_of_mem _ (List.mem_append_left _ (List.mem_append_right _ h))) (by decide +kernel))) (goodIn_sub (fun _ h => List.mem_cons_of_mem _ (List.mem_append_right _ h)) (by decide +kernel))
set_option maxRecDepth 20000 in
theorem gL_act_X3_pond : GoodIn wsL_act (wsV RL 62 RX3 yX3_pond wsX3_pond) := goodIn_app (goodIn_of _ (by decide +kernel)) ggL_act_X3_pond
set_option maxRecDepth 20000 in
theorem ggL_act_X5_can : GoodIn wsL_act wsX5_can := goodIn_r _ [191, 192, 193, 244, 245, 246, 247, 248, 249, 250, 251, 252, 253, 254, 255, 256, 257, 258, 259, 260] (by decide +kernel) (by decide +kernel)
set_option maxRecDepth 20000 in
theorem gL_act_X5_can : GoodIn wsL_act (wsV RL 65 RX5 yX5_can wsX5_can) := goodIn_app (goodIn_of _ (by decide +kernel)) ggL_act_X5_can
set_option maxRecDepth 20000 in
theorem ggL_act_X3_start : GoodIn wsL_act wsX3_start := goodIn_ca (goodIn_r _ [197, 34, 35, 36, 48, 49, 50, 28, 51, 52, 198, 199, 200, 201, 202, 203, 204, 205, 43, 44, 45, 46, 47, 206, 129, 130, 131, 132, 133, 134, 135, 136, 137, 138, 139, 140, 141, 142, 143, 66, 207, 208, 209, 40, 210, 211, 212, 213, 214, 215, 216, 217, 218, 219, 220, 221, 222, 223, 59, 224, 225, 226, 227, 228, 229, 230, 231, 232, 261, 262, 263, 264, 265, 266, 267, 268, 269, 281, 282, 283, 270, 271, 272, 273, 274, 275, 276, 277, 278, 279, 280] (by decide +kernel) (by decide +kernel)) (goodIn_sub (fun _ h => List.mem_cons_of_mem _ (List.mem_append_right _ h)) (by decide +kernel))
set_option maxRecDepth 20000 in
theorem gL_act_X3_start : GoodIn wsL_act (wsV RL 72 RX3 yX3_start wsX3_start) := goodIn_app (goodIn_of _ (by decide +kernel)) ggL_act_X3_start
set_option maxRecDepth 20000 in
theorem ggL_act_X5_start : GoodIn wsL_act wsX5_start := goodIn_r _ [236, 192, 193, 237, 238, 239, 240, 241, 242, 243, 188, 189, 190, 191, 244, 245, 246, 247, 248, 249, 250, 251, 252, 253, 254, 255, 256, 257, 258, 259, 260] (by decide +kernel) (by decide +kernel)
set_option maxRecDepth 20000 in
theorem gL_act_X5_start : GoodIn wsL_act (wsV RL 75 RX5 yX5_start wsX5_start) := goodIn_app (goodIn_of _ (by decide +kernel)) ggL_act_X5_start
