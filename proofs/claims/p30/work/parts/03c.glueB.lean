set_option maxRecDepth 20000 in
theorem ggL_areFilms_X5_film : GoodIn wsL_areFilms wsX5_film := goodIn_r _ [8, 9, 10, 11, 12, 13, 14, 15, 16, 17, 18, 19, 20, 21, 22, 23, 24, 25, 26, 27, 28, 29, 30, 31, 32, 33, 34, 35, 36, 37, 38, 39, 40, 41, 42, 43, 44, 45, 46, 47, 48, 49, 50, 51, 52, 53, 54, 55, 56, 57, 58, 59, 60, 61, 62, 63, 64, 65, 66, 67, 68, 69, 70, 71, 72, 73, 74, 75, 76, 77, 78, 79, 80, 81, 82, 83, 84, 85, 86, 87, 88, 123, 124, 125, 126, 127, 128, 129, 130, 131, 132, 133, 134, 135, 136, 137, 138] (by decide +kernel) (by decide +kernel)
set_option maxRecDepth 20000 in
theorem gL_areFilms_X5_film : GoodIn wsL_areFilms (wsV RL 137 RX5 yX5_film wsX5_film) := goodIn_app (goodIn_of _ (by decide +kernel)) ggL_areFilms_X5_film
set_option maxRecDepth 20000 in
theorem ggL_areFilms_X5_side : GoodIn wsL_areFilms wsX5_side := goodIn_r _ [92, 9, 10, 93, 94, 95, 14, 96, 97, 98, 16, 17, 18, 19, 20, 21, 22, 23, 24, 25, 26, 27, 28, 29, 30, 31, 32, 33, 34, 35, 36, 37, 38, 39, 40, 41, 42, 43, 44, 45, 46, 47, 48, 49, 50, 51, 52, 53, 54, 55, 56, 57, 58, 59, 60, 61, 62, 63, 64, 65, 66, 67, 68, 69, 70, 71, 72, 73, 74, 75, 76, 77, 11, 12, 13, 15, 123, 124, 125, 126, 127, 128, 129, 130, 131, 132, 133, 134, 135, 136, 137, 138] (by decide +kernel) (by decide +kernel)
set_option maxRecDepth 20000 in
theorem gL_areFilms_X5_side : GoodIn wsL_areFilms (wsV RL 110 RX5 yX5_side wsX5_side) := goodIn_app (goodIn_of _ (by decide +kernel)) ggL_areFilms_X5_side
set_option maxRecDepth 20000 in
theorem ggL_areFilms_X5_proof : GoodIn wsL_areFilms wsX5_proof := goodIn_r _ [102, 9, 10, 103, 104, 105, 14, 106, 26, 20, 16, 17, 18, 19, 21, 22, 23, 24, 25, 27, 28, 29, 30, 31, 32, 33, 34, 35, 36, 37, 38, 39, 40, 41, 42, 43, 44, 45, 46, 47, 48, 49, 50, 51, 52, 53, 54, 55, 56, 57, 58, 59, 60, 61, 62, 63, 64, 65, 66, 67, 68, 69, 70, 71, 72, 73, 85, 86, 87, 88, 123, 124, 125, 126, 127, 128, 129, 130, 131, 132, 133, 134, 135, 136, 137, 138] (by decide +kernel) (by decide +kernel)
set_option maxRecDepth 20000 in
theorem gL_areFilms_X5_proof : GoodIn wsL_areFilms (wsV RL 140 RX5 yX5_proof wsX5_proof) := goodIn_app (goodIn_of _ (by decide +kernel)) ggL_areFilms_X5_proof
set_option maxRecDepth 20000 in
theorem ggL_areFilms_L_costOf : GoodIn wsL_areFilms wsL_costOf := goodIn_ca (goodIn_r _ [110, 111, 112, 113, 114, 115, 7, 116, 117, 118, 9, 10, 119, 120, 121, 14, 122, 26, 82, 83, 84, 78, 79, 80, 81, 53, 54, 55, 35, 56, 42, 85, 86, 87, 88, 43, 48, 49, 50, 51, 52, 123, 124, 125, 126, 127, 128, 129, 130, 131, 132, 133, 134, 135, 136, 137, 138] (by decide +kernel) (by decide +kernel)) (goodIn_sub (fun _ h => List.mem_cons_of_mem _ (List.mem_append_right _ h)) (by decide +kernel))
set_option maxRecDepth 20000 in
theorem gL_areFilms_L_costOf : GoodIn wsL_areFilms (va_wsS RL 143 yL_costOf wsL_costOf) := goodIn_app (goodIn_of _ (by decide +kernel)) ggL_areFilms_L_costOf
set_option maxRecDepth 20000 in
theorem ggL_areNets_X5_least : GoodIn wsL_areNets wsX5_least := goodIn_r _ [6, 7, 8, 9, 10, 11, 12, 13, 14, 15, 16, 17, 18, 19, 20, 21, 22, 23, 24, 25, 26, 27, 28, 29, 30, 31, 32, 33, 34, 35, 36, 37, 38, 39, 40, 41, 42, 43, 44, 45, 46, 47, 48, 49, 50, 51, 52, 53, 54, 55, 56, 57, 58, 59, 230, 231, 232, 233, 234, 235, 236, 237, 238, 239, 240, 241, 242, 243, 244, 245, 246, 247, 248] (by decide +kernel) (by decide +kernel)
set_option maxRecDepth 20000 in
theorem gL_areNets_X5_least : GoodIn wsL_areNets (wsV RL 118 RX5 yX5_least wsX5_least) := goodIn_app (goodIn_of _ (by decide +kernel)) ggL_areNets_X5_least
set_option maxRecDepth 20000 in
theorem ggL_areNets_X5_bound : GoodIn wsL_areNets wsX5_bound := goodIn_r _ [63, 7, 8, 64, 65, 66, 12, 67, 14, 68, 69, 57, 70, 71, 72, 73, 74, 75, 16, 22, 23, 24, 25, 26, 27, 28, 29, 30, 31, 32, 33, 34, 35, 36, 37, 38, 76, 77, 78, 79, 80, 55, 56, 58, 81, 82, 83, 84, 85, 86, 87, 88, 89, 90, 91, 92, 93, 94, 95, 96, 97, 98, 99, 230, 231, 232, 233, 234, 235, 236, 237, 238, 239, 240, 241, 242, 243, 244, 245, 246, 247, 248] (by decide +kernel) (by decide +kernel)
set_option maxRecDepth 20000 in
theorem gL_areNets_X5_bound : GoodIn wsL_areNets (wsV RL 122 RX5 yX5_bound wsX5_bound) := goodIn_app (goodIn_of _ (by decide +kernel)) ggL_areNets_X5_bound
set_option maxRecDepth 20000 in
theorem ggL_areNets_X5_gap : GoodIn wsL_areNets wsX5_gap := goodIn_r _ [103, 7, 8, 9, 10, 11, 12, 13, 14, 15, 16, 17, 18, 19, 20, 21, 22, 23, 24, 25, 26, 27, 28, 29, 30, 31, 32, 33, 34, 35, 36, 37, 38, 39, 40, 41, 42, 43, 44, 45, 46, 47, 48, 49, 50, 51, 52, 53, 54, 55, 56, 57, 58, 59, 64, 65, 66, 67, 68, 69, 70, 71, 72, 73, 74, 75, 76, 77, 78, 79, 80, 81, 82, 83, 84, 85, 86, 87, 88, 89, 90, 91, 92, 93, 94, 95, 96, 97, 98, 99, 230, 231, 232, 233, 234, 235, 236, 237, 238, 239, 240, 241, 242, 243, 244, 245, 246, 247, 248] (by decide +kernel) (by decide +kernel)
set_option maxRecDepth 20000 in
theorem gL_areNets_X5_gap : GoodIn wsL_areNets (wsV RL 125 RX5 yX5_gap wsX5_gap) := goodIn_app (goodIn_of _ (by decide +kernel)) ggL_areNets_X5_gap
set_option maxRecDepth 20000 in
theorem ggL_areNets_X5_leastAnew : GoodIn wsL_areNets wsX5_leastAnew := goodIn_r _ [107, 7, 8, 108, 109, 110, 12, 111, 14, 54, 112, 55, 56, 57, 58, 71, 72, 73, 74, 75, 16, 22, 23, 24, 25, 26, 27, 28, 29, 30, 31, 32, 33, 34, 35, 36, 37, 38, 113, 114, 115, 116, 230, 231, 232, 233, 234, 235, 236, 237, 238, 239, 240, 241, 242, 243, 244, 245, 246, 247, 248] (by decide +kernel) (by decide +kernel)
set_option maxRecDepth 20000 in
theorem gL_areNets_X5_leastAnew : GoodIn wsL_areNets (wsV RL 128 RX5 yX5_leastAnew wsX5_leastAnew) := goodIn_app (goodIn_of _ (by decide +kernel)) ggL_areNets_X5_leastAnew
set_option maxRecDepth 20000 in
theorem ggL_areNets_L_townAt : GoodIn wsL_areNets wsL_townAt := goodIn_ca (goodIn_r _ [120, 121, 122, 123, 124, 125, 5, 126, 7, 127, 128, 129, 130, 131, 132, 133, 134, 135, 12, 136, 14, 137, 138, 139, 140, 16, 230, 231, 232, 233, 234, 235, 236, 237, 238, 239, 240, 241] (by decide +kernel) (by decide +kernel)) (goodIn_sub (fun _ h => List.mem_cons_of_mem _ (List.mem_append_left _ (List.mem_append_right _ h))) (by decide +kernel))
set_option maxRecDepth 20000 in
theorem gL_areNets_L_townAt : GoodIn wsL_areNets (va_wsS RL 95 yL_townAt wsL_townAt) := goodIn_app (goodIn_of _ (by decide +kernel)) ggL_areNets_L_townAt
set_option maxRecDepth 20000 in
theorem ggL_areNets_L_apart : GoodIn wsL_areNets wsL_apart := goodIn_ca (goodIn_r _ [143, 121, 122, 144, 145, 146, 5, 147, 148, 8, 149, 150, 151, 131, 132, 152, 153, 154, 155, 156, 157, 158, 23, 24, 25, 26, 27, 28, 29, 30, 31, 32, 33, 34, 35, 36, 37, 38, 230, 231, 232, 233, 234, 249, 250, 242, 243, 244, 245, 246, 247, 248] (by decide +kernel) (by decide +kernel)) (goodIn_sub (fun _ h => List.mem_cons_of_mem _ (List.mem_append_left _ (List.mem_append_right _ h))) (by decide +kernel))
set_option maxRecDepth 20000 in
theorem gL_areNets_L_apart : GoodIn wsL_areNets (va_wsS RL 131 yL_apart wsL_apart) := goodIn_app (goodIn_of _ (by decide +kernel)) ggL_areNets_L_apart
set_option maxRecDepth 20000 in
theorem ggL_areNets_L_isUsed : GoodIn wsL_areNets wsL_isUsed := goodIn_ca (goodIn_r _ [161, 121, 122, 162, 163, 164, 5, 165, 7, 8, 166, 167, 168, 131, 132, 169, 170, 171, 12, 172, 14, 15, 16, 17, 18, 19, 20, 21, 22, 23, 24, 25, 26, 27, 28, 29, 30, 31, 32, 33, 34, 35, 36, 37, 38, 39, 40, 41, 42, 43, 44, 45, 46, 47, 48, 49, 50, 51, 52, 53, 54, 55, 56, 57, 58, 59, 173, 174, 175, 176, 177, 178, 179, 180, 181, 182, 183, 184, 230, 231, 232, 233, 234, 235, 236, 237, 238, 239, 240, 241, 242, 243, 244, 245, 246, 247, 248] (by decide +kernel) (by decide +kernel)) (goodIn_sub (fun _ h => List.mem_cons_of_mem _ (List.mem_append_left _ (List.mem_append_right _ h))) (by decide +kernel))
set_option maxRecDepth 20000 in
theorem gL_areNets_L_isUsed : GoodIn wsL_areNets (va_wsS RL 133 yL_isUsed wsL_isUsed) := goodIn_app (goodIn_of _ (by decide +kernel)) ggL_areNets_L_isUsed
set_option maxRecDepth 20000 in
theorem ggL_areNets_L_twoWays : GoodIn wsL_areNets wsL_twoWays := goodIn_ca (goodIn_ca (goodIn_r _ [187, 121, 188, 122, 1, 189, 190, 191, 5, 192, 193, 194, 148, 8, 149, 150, 151, 131, 132, 195, 196, 197, 155, 198, 157, 199, 153, 154, 156, 158, 23, 24, 25, 26, 27, 28, 29, 30, 31, 32, 33, 34, 35, 36, 37, 38, 200, 201, 202, 203, 204, 205, 206, 207, 208, 209, 210, 211, 212, 213, 214, 215, 216, 217, 218, 182, 183, 184, 219, 220, 221, 222, 223, 224, 174, 175, 176, 225, 178, 179, 180, 226, 227, 228, 229, 230, 231, 232, 233, 234, 249, 250, 242, 243, 244, 245, 246, 247, 248] (by decide +kernel) (by decide +kernel)) (goodIn_sub (fun _ h => List.mem_cons_of_mem _ (List.mem_append_right _ h)) (by decide +kernel))) (goodIn_sub (fun _ h => List.mem_cons_of_mem _ (List.mem_append_left _ (List.mem_append_right _ h))) (by decide +kernel))
set_option maxRecDepth 20000 in
theorem gL_areNets_L_twoWays : GoodIn wsL_areNets (va_wsS RL 135 yL_twoWays wsL_twoWays) := goodIn_app (goodIn_of _ (by decide +kernel)) ggL_areNets_L_twoWays
