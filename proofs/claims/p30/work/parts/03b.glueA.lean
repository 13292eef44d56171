set_option maxRecDepth 20000 in
theorem ggL_mix_L_edge : GoodIn wsL_mix wsL_edge := goodIn_ca (goodIn_r _ [13, 14, 15, 16, 17, 18, 19, 20, 21, 22, 23, 24, 25, 26, 27, 28, 29, 30, 31, 32, 258, 259, 260, 261, 262, 263, 264, 265, 266, 267, 268, 269] (by decide +kernel) (by decide +kernel)) (goodIn_sub (fun _ h => List.mem_cons_of_mem _ (List.mem_append_left _ (List.mem_append_right _ h))) (by decide +kernel))
set_option maxRecDepth 20000 in
theorem gL_mix_L_edge : GoodIn wsL_mix (va_wsS RL 86 yL_edge wsL_edge) := goodIn_app (goodIn_of _ (by decide +kernel)) ggL_mix_L_edge
set_option maxRecDepth 20000 in
theorem ggL_mix_L_bubbleAt : GoodIn wsL_mix wsL_bubbleAt := goodIn_ca (goodIn_r _ [35, 14, 15, 36, 37, 38, 19, 39, 40, 41, 42, 43, 25, 26, 44, 45, 46, 47, 48, 49, 258, 259, 260, 261, 262, 270, 271, 272, 273, 274, 275, 276] (by decide +kernel) (by decide +kernel)) (goodIn_sub (fun _ h => List.mem_cons_of_mem _ (List.mem_append_left _ (List.mem_append_right _ h))) (by decide +kernel))
set_option maxRecDepth 20000 in
theorem gL_mix_L_bubbleAt : GoodIn wsL_mix (va_wsS RL 91 yL_bubbleAt wsL_bubbleAt) := goodIn_app (goodIn_of _ (by decide +kernel)) ggL_mix_L_bubbleAt
set_option maxRecDepth 20000 in
theorem ggL_mix_L_townAt : GoodIn wsL_mix wsL_townAt := goodIn_ca (goodIn_r _ [52, 14, 15, 53, 54, 55, 19, 56, 57, 58, 59, 60, 61, 25, 26, 62, 63, 64, 65, 66, 67, 68, 69, 70, 71, 72, 258, 259, 260, 261, 262, 277, 278, 279, 280, 281, 282, 283] (by decide +kernel) (by decide +kernel)) (goodIn_sub (fun _ h => List.mem_cons_of_mem _ (List.mem_append_left _ (List.mem_append_right _ h))) (by decide +kernel))
set_option maxRecDepth 20000 in
theorem gL_mix_L_townAt : GoodIn wsL_mix (va_wsS RL 95 yL_townAt wsL_townAt) := goodIn_app (goodIn_of _ (by decide +kernel)) ggL_mix_L_townAt
set_option maxRecDepth 20000 in
theorem ggL_mix_L_bubble : GoodIn wsL_mix wsL_bubble := goodIn_ca (goodIn_ca (goodIn_r _ [75, 14, 76, 15, 77, 78, 79, 80, 19, 81, 82, 83, 40, 21, 84, 85, 86, 25, 26, 87, 88, 89, 47, 90, 49, 91, 92, 93, 94, 95, 96, 97, 98, 99, 100, 101, 102, 103, 30, 104, 105, 106, 107, 108, 109, 110, 111, 112, 113, 114, 115, 116, 117, 118, 119, 120, 121, 122, 123, 124, 125, 126, 127, 128, 129, 130, 131, 132, 28, 29, 31, 32, 133, 134, 135, 136, 137, 138, 139, 140, 141, 142, 143, 144, 145, 146, 147, 148, 258, 259, 260, 261, 262, 270, 271, 272, 273, 274, 275, 276, 263, 264, 265, 266, 267, 268, 269] (by decide +kernel) (by decide +kernel)) (goodIn_sub (fun _ h => List.mem_cons_of_mem _ (List.mem_append_right _ h)) (by decide +kernel))) (goodIn_sub (fun _ h => List.mem_cons_of_mem _ (List.mem_append_left _ (List.mem_append_right _ h))) (by decide +kernel))
set_option maxRecDepth 20000 in
theorem gL_mix_L_bubble : GoodIn wsL_mix (va_wsS RL 99 yL_bubble wsL_bubble) := goodIn_app (goodIn_of _ (by decide +kernel)) ggL_mix_L_bubble
set_option maxRecDepth 20000 in
theorem ggL_mix_L_energy : GoodIn wsL_mix wsL_energy := goodIn_ca (goodIn_r _ [151, 76, 77, 152, 153, 154, 19, 155, 82, 83, 40, 21, 156, 157, 158, 47, 159, 49, 160, 161, 162, 124, 125, 126, 30, 127, 110, 128, 129, 130, 131, 111, 132, 28, 29, 31, 32, 163, 164, 165, 166, 167, 168, 169, 170, 171, 172, 173, 174, 175, 176, 177, 178, 179, 148, 180, 181, 182, 183, 184, 185, 186, 101, 102, 103, 104, 105, 106, 107, 108, 109, 187, 188, 189, 190, 191, 192, 193, 194, 195, 196, 258, 259, 260, 261, 262, 270, 271, 272, 273, 274, 275, 276, 263, 264, 265, 266, 267, 268, 269] (by decide +kernel) (by decide +kernel)) (goodIn_sub (fun _ h => List.mem_cons_of_mem _ (List.mem_append_right _ h)) (by decide +kernel))
set_option maxRecDepth 20000 in
theorem gL_mix_L_energy : GoodIn wsL_mix (va_wsS RL 104 yL_energy wsL_energy) := goodIn_app (goodIn_of _ (by decide +kernel)) ggL_mix_L_energy
set_option maxRecDepth 20000 in
theorem ggL_mix_X5_side : GoodIn wsL_mix wsX5_side := goodIn_r _ [200, 201, 21, 202, 203, 204, 205, 206, 207, 208, 209, 210, 211, 212, 213, 214, 215, 216, 217, 218, 219, 220, 221, 222, 223, 224, 225, 102, 103, 30, 104, 105, 226, 107, 108, 109, 110, 111, 227, 228, 229, 230, 231, 28, 29, 31, 32, 232, 125, 126, 127, 233, 234, 235, 236, 237, 238, 239, 240, 241, 242, 243, 244, 245, 246, 247, 248, 249, 250, 251, 252, 253, 254, 255, 256, 257, 258, 259, 260, 261, 262, 284, 285, 286, 287, 263, 264, 265, 266, 267, 268, 269] (by decide +kernel) (by decide +kernel)
set_option maxRecDepth 20000 in
theorem gL_mix_X5_side : GoodIn wsL_mix (wsV RL 110 RX5 yX5_side wsX5_side) := goodIn_app (goodIn_of _ (by decide +kernel)) ggL_mix_X5_side
set_option maxRecDepth 20000 in
theorem ggL_isFoam_L_wall : GoodIn wsL_isFoam wsL_wall := goodIn_ca (goodIn_r _ [4, 5, 6, 7, 8, 9, 10, 11, 12, 13, 14, 15, 16, 17, 18, 19, 20, 21, 22, 23, 24, 25, 26, 27, 28, 29, 30, 31, 32, 33, 34, 35, 36, 37, 38, 39, 40, 41, 42, 43, 44, 168, 169, 170, 171, 172, 173, 174, 175, 176, 177, 178, 179, 180, 181, 182, 183, 184, 185, 186] (by decide +kernel) (by decide +kernel)) (goodIn_sub (fun _ h => List.mem_cons_of_mem _ (List.mem_append_left _ (List.mem_append_right _ h))) (by decide +kernel))
set_option maxRecDepth 20000 in
theorem gL_isFoam_L_wall : GoodIn wsL_isFoam (va_wsS RL 152 yL_wall wsL_wall) := goodIn_app (goodIn_of _ (by decide +kernel)) ggL_isFoam_L_wall
set_option maxRecDepth 20000 in
theorem ggL_isFoam_L_bubble : GoodIn wsL_isFoam wsL_bubble := goodIn_ca (goodIn_ca (goodIn_r _ [47, 5, 48, 6, 49, 50, 51, 52, 10, 53, 54, 55, 12, 13, 14, 15, 16, 17, 18, 56, 57, 58, 22, 59, 28, 60, 61, 62, 63, 64, 65, 66, 67, 68, 69, 70, 71, 72, 32, 73, 74, 75, 76, 77, 78, 34, 39, 79, 80, 81, 82, 83, 20, 21, 23, 24, 25, 26, 27, 29, 30, 31, 33, 35, 36, 37, 38, 40, 41, 42, 43, 44, 84, 85, 86, 87, 88, 89, 90, 91, 92, 93, 94, 95, 96, 97, 98, 99, 168, 169, 170, 171, 172, 173, 174, 175, 176, 177, 178, 179, 180, 181, 182, 183, 184, 185, 186] (by decide +kernel) (by decide +kernel)) (goodIn_sub (fun _ h => List.mem_cons_of_mem _ (List.mem_append_right _ h)) (by decide +kernel))) (goodIn_sub (fun _ h => List.mem_cons_of_mem _ (List.mem_append_left _ (List.mem_append_right _ h))) (by decide +kernel))
set_option maxRecDepth 20000 in
theorem gL_isFoam_L_bubble : GoodIn wsL_isFoam (va_wsS RL 99 yL_bubble wsL_bubble) := goodIn_app (goodIn_of _ (by decide +kernel)) ggL_isFoam_L_bubble
set_option maxRecDepth 20000 in
theorem ggL_isFoam_L_corners : GoodIn wsL_isFoam wsL_corners := goodIn_ca (goodIn_r _ [102, 48, 49, 103, 104, 105, 10, 106, 54, 55, 12, 107, 108, 109, 22, 110, 111, 112, 113, 114, 28, 88, 89, 90, 91, 92, 93, 94, 168, 169, 170, 171, 172, 173, 174, 175, 176, 177, 178, 179] (by decide +kernel) (by decide +kernel)) (goodIn_sub (fun _ h => List.mem_cons_of_mem _ (List.mem_append_right _ h)) (by decide +kernel))
set_option maxRecDepth 20000 in
theorem gL_isFoam_L_corners : GoodIn wsL_isFoam (va_wsS RL 154 yL_corners wsL_corners) := goodIn_app (goodIn_of _ (by decide +kernel)) ggL_isFoam_L_corners
set_option maxRecDepth 20000 in
theorem ggL_isFoam_L_energy : GoodIn wsL_isFoam wsL_energy := goodIn_ca (goodIn_r _ [117, 48, 49, 118, 119, 120, 10, 121, 54, 55, 12, 13, 122, 123, 124, 22, 125, 28, 126, 127, 128, 29, 30, 31, 32, 33, 34, 35, 36, 37, 38, 39, 40, 41, 42, 43, 44, 129, 130, 131, 132, 133, 134, 135, 136, 137, 138, 139, 140, 141, 142, 143, 144, 145, 99, 146, 147, 148, 149, 150, 151, 152, 70, 71, 72, 73, 74, 75, 76, 77, 78, 153, 154, 155, 156, 157, 158, 159, 160, 161, 162, 168, 169, 170, 171, 172, 173, 174, 175, 176, 177, 178, 179, 180, 181, 182, 183, 184, 185, 186] (by decide +kernel) (by decide +kernel)) (goodIn_sub (fun _ h => List.mem_cons_of_mem _ (List.mem_append_right _ h)) (by decide +kernel))
set_option maxRecDepth 20000 in
theorem gL_isFoam_L_energy : GoodIn wsL_isFoam (va_wsS RL 104 yL_energy wsL_energy) := goodIn_app (goodIn_of _ (by decide +kernel)) ggL_isFoam_L_energy
set_option maxRecDepth 20000 in
theorem ggL_isFoam_X5_rests : GoodIn wsL_isFoam wsX5_rests := goodIn_r _ [166, 12, 13, 167, 135, 136, 22, 137, 28, 133, 138, 139, 140, 141, 142, 143, 144, 145, 99, 146, 147, 148, 149, 150, 151, 152, 70, 71, 72, 32, 73, 74, 75, 76, 77, 78, 34, 39, 40, 41, 42, 43, 44, 168, 169, 170, 171, 172, 173, 174, 175, 176, 177, 178, 179, 180, 181, 182, 183, 184, 185, 186] (by decide +kernel) (by decide +kernel)
set_option maxRecDepth 20000 in
theorem gL_isFoam_X5_rests : GoodIn wsL_isFoam (wsV RL 156 RX5 yX5_rests wsX5_rests) := goodIn_app (goodIn_of _ (by decide +kernel)) ggL_isFoam_X5_rests
