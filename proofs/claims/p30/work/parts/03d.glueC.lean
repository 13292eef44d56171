set_option maxRecDepth 20000 in
theorem ggL_breathes_L_energy : GoodIn wsL_breathes wsL_energy := goodIn_ca (goodIn_r _ [4, 5, 6, 7, 8, 9, 10, 11, 12, 13, 14, 15, 16, 17, 18, 19, 20, 21, 22, 23, 24, 25, 26, 27, 28, 29, 30, 31, 32, 33, 34, 35, 36, 37, 38, 39, 40, 41, 42, 43, 44, 45, 46, 47, 48, 49, 50, 51, 52, 53, 54, 55, 56, 57, 58, 59, 60, 61, 62, 63, 64, 65, 66, 67, 68, 69, 70, 71, 72, 73, 74, 75, 76, 77, 78, 79, 80, 81, 82, 83, 84, 107, 108, 109, 110, 111, 112, 113, 114, 115, 116, 117, 118, 119, 120, 121, 122, 123, 124, 125] (by decide +kernel) (by decide +kernel)) (goodIn_sub (fun _ h => List.mem_cons_of_mem _ (List.mem_append_right _ h)) (by decide +kernel))
set_option maxRecDepth 20000 in
theorem gL_breathes_L_energy : GoodIn wsL_breathes (va_wsS RL 104 yL_energy wsL_energy) := goodIn_app (goodIn_of _ (by decide +kernel)) ggL_breathes_L_energy
set_option maxRecDepth 20000 in
theorem ggL_breathes_X5_rests : GoodIn wsL_breathes wsX5_rests := goodIn_r _ [88, 14, 15, 89, 47, 48, 19, 49, 21, 45, 50, 51, 52, 53, 54, 55, 56, 57, 58, 59, 60, 61, 62, 63, 64, 65, 66, 67, 68, 28, 69, 70, 71, 72, 73, 74, 30, 35, 36, 37, 38, 39, 40, 107, 108, 109, 110, 111, 112, 113, 114, 115, 116, 117, 118, 119, 120, 121, 122, 123, 124, 125] (by decide +kernel) (by decide +kernel)
set_option maxRecDepth 20000 in
theorem gL_breathes_X5_rests : GoodIn wsL_breathes (wsV RL 156 RX5 yX5_rests wsX5_rests) := goodIn_app (goodIn_of _ (by decide +kernel)) ggL_breathes_X5_rests
set_option maxRecDepth 20000 in
theorem ggL_breathes_L_breathe : GoodIn wsL_breathes wsL_breathe := goodIn_ca (goodIn_r _ [92, 5, 6, 93, 94, 95, 10, 96, 12, 13, 14, 15, 97, 98, 99, 19, 100, 21, 84, 101, 17, 18, 20, 22, 23, 24, 25, 26, 27, 28, 29, 30, 31, 32, 33, 34, 35, 36, 37, 38, 39, 40, 54, 55, 56, 57, 58, 59, 60, 61, 62, 63, 64, 65, 66, 67, 68, 69, 70, 71, 72, 73, 74, 107, 108, 109, 110, 111, 112, 113, 114, 115, 116, 117, 118, 119, 120, 121, 122, 123, 124, 125] (by decide +kernel) (by decide +kernel)) (goodIn_sub (fun _ h => List.mem_cons_of_mem _ (List.mem_append_right _ h)) (by decide +kernel))
set_option maxRecDepth 20000 in
theorem gL_breathes_L_breathe : GoodIn wsL_breathes (va_wsS RL 159 yL_breathe wsL_breathe) := goodIn_app (goodIn_of _ (by decide +kernel)) ggL_breathes_L_breathe
set_option maxRecDepth 20000 in
theorem ggL_breathes_L_isRefused : GoodIn wsL_breathes wsL_isRefused := goodIn_r _ [104, 105, 6, 106] (by decide +kernel) (by decide +kernel)
set_option maxRecDepth 20000 in
theorem gL_breathes_L_isRefused : GoodIn wsL_breathes (va_wsS RL 161 yL_isRefused wsL_isRefused) := goodIn_app (goodIn_of _ (by decide +kernel)) ggL_breathes_L_isRefused
set_option maxRecDepth 20000 in
theorem ggL_does_L_cost : GoodIn wsL_does wsL_cost := goodIn_ca (goodIn_r _ [6, 7, 8, 9, 10, 11, 12, 13, 14, 15, 16, 17, 18, 19, 20, 21, 22, 23, 24, 25, 26, 27, 28, 29, 30, 31, 32, 33, 34, 35, 36, 37, 38, 39, 40, 41, 42, 43, 44, 45, 46, 47, 48, 49, 50, 51, 52, 53, 54, 55, 56, 57, 58, 59, 60, 61, 62, 63, 64, 65, 266, 267, 268, 269, 270, 271, 272, 273, 274, 275, 276, 277, 278, 279, 280, 281, 282, 283, 284, 285, 286, 287, 288, 289, 290, 291] (by decide +kernel) (by decide +kernel)) (goodIn_sub (fun _ h => List.mem_cons_of_mem _ (List.mem_append_left _ (List.mem_append_left _ (List.mem_append_right _ h)))) (by decide +kernel))
set_option maxRecDepth 20000 in
theorem gL_does_L_cost : GoodIn wsL_does (va_wsS RL 164 yL_cost wsL_cost) := goodIn_app (goodIn_of _ (by decide +kernel)) ggL_does_L_cost
set_option maxRecDepth 20000 in
theorem ggL_does_L_lay : GoodIn wsL_does wsL_lay := goodIn_ca (goodIn_ca (goodIn_r _ [68, 69, 7, 70, 8, 71, 72, 73, 12, 74, 14, 15, 16, 17, 75, 76, 77, 78, 79, 18, 19, 20, 21, 22, 23, 24, 25, 26, 27, 28, 29, 30, 31, 32, 33, 34, 35, 36, 37, 38, 39, 40, 41, 42, 80, 81, 82, 83, 49, 47, 48, 50, 51, 52, 53, 54, 55, 56, 57, 58, 59, 60, 61, 62, 63, 64, 65, 266, 267, 268, 269, 270, 271, 272, 273, 274, 275, 276, 277, 278, 279, 280, 281, 282, 283, 284, 285, 286, 287, 288, 289, 290, 291] (by decide +kernel) (by decide +kernel)) (goodIn_sub (fun _ h => List.mem_cons_of_mem _ (List.mem_append_left _ (List.mem_append_left _ (List.mem_append_right _ h)))) (by decide +kernel))) (goodIn_sub (fun _ h => List.mem_cons_of_mem _ (List.mem_append_left _ (List.mem_append_right _ h))) (by decide +kernel))
set_option maxRecDepth 20000 in
theorem gL_does_L_lay : GoodIn wsL_does (va_wsS RL 166 yL_lay wsL_lay) := goodIn_app (goodIn_of _ (by decide +kernel)) ggL_does_L_lay
set_option maxRecDepth 20000 in
theorem ggL_does_L_town : GoodIn wsL_does wsL_town := goodIn_ca (goodIn_ca (goodIn_r _ [86, 69, 87, 70, 88, 89, 90, 91, 12, 92, 93, 94, 54, 95, 96, 97, 78, 79, 98, 99, 100, 58, 101, 102, 103, 104, 105, 106, 107, 108, 109, 110, 111, 112, 56, 57, 59, 60, 266, 267, 268, 269, 270, 285, 286, 287, 288, 289, 290, 291] (by decide +kernel) (by decide +kernel)) (goodIn_sub (fun _ h => List.mem_cons_of_mem _ (List.mem_append_right _ h)) (by decide +kernel))) (goodIn_sub (fun _ h => List.mem_cons_of_mem _ (List.mem_append_left _ (List.mem_append_right _ h))) (by decide +kernel))
set_option maxRecDepth 20000 in
theorem gL_does_L_town : GoodIn wsL_does (va_wsS RL 168 yL_town wsL_town) := goodIn_app (goodIn_of _ (by decide +kernel)) ggL_does_L_town
set_option maxRecDepth 20000 in
theorem ggL_does_L_isRefused : GoodIn wsL_does wsL_isRefused := goodIn_r _ [115, 70, 8, 88] (by decide +kernel) (by decide +kernel)
set_option maxRecDepth 20000 in
theorem gL_does_L_isRefused : GoodIn wsL_does (va_wsS RL 161 yL_isRefused wsL_isRefused) := goodIn_app (goodIn_of _ (by decide +kernel)) ggL_does_L_isRefused
set_option maxRecDepth 20000 in
theorem ggL_does_L_away : GoodIn wsL_does wsL_away := goodIn_ca (goodIn_r _ [118, 69, 70, 119, 120, 121, 12, 122, 54, 123, 124, 125, 126, 78, 79, 127, 128, 129, 58, 130, 102, 131, 132, 133, 134, 103, 112, 56, 57, 59, 60, 266, 267, 268, 269, 270, 285, 286, 287, 288, 289, 290, 291] (by decide +kernel) (by decide +kernel)) (goodIn_sub (fun _ h => List.mem_cons_of_mem _ (List.mem_append_left _ (List.mem_append_right _ h))) (by decide +kernel))
set_option maxRecDepth 20000 in
theorem gL_does_L_away : GoodIn wsL_does (va_wsS RL 170 yL_away wsL_away) := goodIn_app (goodIn_of _ (by decide +kernel)) ggL_does_L_away
set_option maxRecDepth 20000 in
theorem ggL_does_L_pin : GoodIn wsL_does wsL_pin := goodIn_ca (goodIn_ca (goodIn_r _ [137, 69, 7, 70, 8, 138, 139, 140, 12, 141, 14, 15, 142, 95, 96, 97, 78, 79, 143, 144, 145, 146, 147, 148, 266, 267, 268, 269, 270, 292, 293, 294, 295] (by decide +kernel) (by decide +kernel)) (goodIn_sub (fun _ h => List.mem_cons_of_mem _ (List.mem_append_left _ (List.mem_append_left _ (List.mem_append_right _ h)))) (by decide +kernel))) (goodIn_sub (fun _ h => List.mem_cons_of_mem _ (List.mem_append_left _ (List.mem_append_right _ h))) (by decide +kernel))
set_option maxRecDepth 20000 in
theorem gL_does_L_pin : GoodIn wsL_does (va_wsS RL 172 yL_pin wsL_pin) := goodIn_app (goodIn_of _ (by decide +kernel)) ggL_does_L_pin
set_option maxRecDepth 20000 in
theorem ggL_does_L_pull : GoodIn wsL_does wsL_pull := goodIn_ca (goodIn_r _ [151, 69, 70, 152, 153, 154, 12, 155, 16, 17, 95, 96, 97, 78, 79, 156, 157, 158, 159, 160, 161, 21, 162, 23, 163, 19, 20, 22, 24, 25, 26, 27, 28, 29, 30, 31, 32, 33, 34, 35, 36, 37, 38, 39, 40, 41, 42, 164, 62, 63, 64, 65, 266, 267, 268, 269, 270, 271, 272, 273, 274, 275, 276, 277, 278, 279, 280, 281, 282, 283, 284] (by decide +kernel) (by decide +kernel)) (goodIn_sub (fun _ h => List.mem_cons_of_mem _ (List.mem_append_left _ (List.mem_append_right _ h))) (by decide +kernel))
set_option maxRecDepth 20000 in
theorem gL_does_L_pull : GoodIn wsL_does (va_wsS RL 174 yL_pull wsL_pull) := goodIn_app (goodIn_of _ (by decide +kernel)) ggL_does_L_pull
set_option maxRecDepth 20000 in
theorem ggL_does_L_hold : GoodIn wsL_does wsL_hold := goodIn_ca (goodIn_r _ [167, 69, 70, 168, 169, 170, 12, 171, 16, 156, 157, 158, 78, 79, 172, 173, 174, 21, 175, 176, 266, 267, 268, 269, 270, 271, 272, 273, 274, 275, 276, 277] (by decide +kernel) (by decide +kernel)) (goodIn_sub (fun _ h => List.mem_cons_of_mem _ (List.mem_append_left _ (List.mem_append_right _ h))) (by decide +kernel))
set_option maxRecDepth 20000 in
theorem gL_does_L_hold : GoodIn wsL_does (va_wsS RL 176 yL_hold wsL_hold) := goodIn_app (goodIn_of _ (by decide +kernel)) ggL_does_L_hold
set_option maxRecDepth 20000 in
theorem ggL_does_L_costOf : GoodIn wsL_does wsL_costOf := goodIn_ca (goodIn_r _ [179, 7, 8, 180, 181, 182, 12, 183, 14, 15, 142, 17, 184, 185, 186, 146, 187, 148, 188, 189, 190, 191, 192, 193, 194, 195, 28, 29, 30, 31, 32, 196, 34, 35, 36, 37, 197, 39, 40, 41, 42, 266, 267, 268, 269, 270, 292, 293, 294, 295, 278, 279, 280, 281, 282, 283, 284] (by decide +kernel) (by decide +kernel)) (goodIn_sub (fun _ h => List.mem_cons_of_mem _ (List.mem_append_left _ (List.mem_append_left _ (List.mem_append_right _ h)))) (by decide +kernel))
set_option maxRecDepth 20000 in
theorem gL_does_L_costOf : GoodIn wsL_does (va_wsS RL 143 yL_costOf wsL_costOf) := goodIn_app (goodIn_of _ (by decide +kernel)) ggL_does_L_costOf
set_option maxRecDepth 20000 in
theorem ggL_does_L_breathes : GoodIn wsL_does wsL_breathes := goodIn_ca (goodIn_r _ [200, 201, 202, 5, 203, 7, 8, 204, 205, 206, 12, 207, 14, 15, 16, 17, 18, 19, 20, 21, 22, 23, 24, 25, 26, 27, 28, 29, 30, 31, 32, 33, 34, 35, 36, 37, 38, 39, 40, 41, 42, 208, 209, 210, 211, 212, 213, 214, 215, 216, 217, 218, 219, 220, 221, 222, 223, 224, 176, 225, 226, 227, 228, 229, 230, 231, 232, 233, 234, 235, 236, 237, 238, 239, 240, 241, 242, 243, 244, 65, 245, 246, 247, 248, 249, 250, 251, 252, 253, 254, 255, 256, 257, 258, 259, 260, 261, 262, 263, 264, 265, 163, 113, 114, 115, 70, 88, 266, 267, 268, 269, 270, 271, 272, 273, 274, 275, 276, 277, 278, 279, 280, 281, 282, 283, 284] (by decide +kernel) (by decide +kernel)) (goodIn_sub (fun _ h => List.mem_cons_of_mem _ (List.mem_append_left _ (List.mem_append_left _ (List.mem_append_right _ h)))) (by decide +kernel))
set_option maxRecDepth 20000 in
theorem gL_does_L_breathes : GoodIn wsL_does (va_wsS RL 181 yL_breathes wsL_breathes) := goodIn_app (goodIn_of _ (by decide +kernel)) ggL_does_L_breathes
