set_option maxRecDepth 20000 in
theorem ggL_cost_X5_cost : GoodIn wsL_cost wsX5_cost := goodIn_ca (goodIn_r _ [6, 7, 8, 9, 10, 11, 12, 13, 14, 15, 16, 17, 18, 19, 20, 21, 22, 23, 24, 25, 26, 27, 28, 29, 30, 31, 32, 33, 34, 35, 36, 37, 38, 39, 40, 41, 42, 43, 44, 45, 5, 46, 47, 48, 49, 50, 51, 52, 53, 54, 55, 56, 57, 58, 59, 60, 61, 62, 63, 64, 65, 66, 67, 68, 69, 70, 71, 72, 73, 74, 75, 76, 77, 78, 79, 80, 81, 82, 83, 84] (by decide +kernel) (by decide +kernel)) (goodIn_sub (fun _ h => List.mem_cons_of_mem _ (List.mem_append_right _ h)) (by decide +kernel))
set_option maxRecDepth 20000 in
theorem gL_cost_X5_cost : GoodIn wsL_cost (wsV RL 7 RX5 yX5_cost wsX5_cost) := goodIn_app (goodIn_of _ (by decide +kernel)) ggL_cost_X5_cost
set_option maxRecDepth 20000 in
theorem ggL_lay_X5_lay : GoodIn wsL_lay wsX5_lay := goodIn_ca (goodIn_ca (goodIn_r _ [7, 8, 9, 10, 11, 12, 13, 6, 14, 15, 16, 17, 18, 19, 20, 21, 22, 23, 24, 25, 26, 27, 28, 29, 30, 31, 32, 33, 34, 35, 36, 37, 38, 39, 40, 41, 42, 43, 44, 45, 46, 47, 48, 49, 50, 51, 52, 53, 54, 55, 56, 57, 58, 59, 60, 61, 62, 63, 64, 65, 66, 67, 68, 69, 70, 71, 72, 73, 74, 75, 76, 77, 78, 79, 80, 81, 82, 83, 84, 85, 86, 87, 88, 89, 90] (by decide +kernel) (by decide +kernel)) (goodIn_sub (fun _ h => List.mem_cons_of_mem _ (List.mem_append_left _ (List.mem_append_right _ h))) (by decide +kernel))) (goodIn_sub (fun _ h => List.mem_cons_of_mem _ (List.mem_append_right _ h)) (by decide +kernel))
set_option maxRecDepth 20000 in
theorem gL_lay_X5_lay : GoodIn wsL_lay (wsV RL 15 RX5 yX5_lay wsX5_lay) := goodIn_app (goodIn_of _ (by decide +kernel)) ggL_lay_X5_lay
set_option maxRecDepth 20000 in
theorem ggL_edge_X5_edge : GoodIn wsL_edge wsX5_edge := goodIn_ca (goodIn_r _ [6, 7, 8, 9, 5, 10, 11, 12, 13, 14, 15, 16, 17, 18, 19, 20, 21, 22, 23, 24, 25, 26, 27, 28, 29, 30] (by decide +kernel) (by decide +kernel)) (goodIn_sub (fun _ h => List.mem_cons_of_mem _ (List.mem_append_right _ h)) (by decide +kernel))
set_option maxRecDepth 20000 in
theorem gL_edge_X5_edge : GoodIn wsL_edge (wsV RL 20 RX5 yX5_edge wsX5_edge) := goodIn_app (goodIn_of _ (by decide +kernel)) ggL_edge_X5_edge
set_option maxRecDepth 20000 in
theorem ggL_apart_X5_apart : GoodIn wsL_apart wsX5_apart := goodIn_ca (goodIn_r _ [6, 7, 8, 9, 10, 5, 11, 12, 13, 14, 15, 16, 17, 18, 19, 20, 21, 22, 23, 24, 25, 26, 27, 28, 29, 30, 31, 32, 33, 34, 35, 36, 37, 38, 39, 40, 41, 42, 43, 44, 45, 46, 47, 48, 49, 50] (by decide +kernel) (by decide +kernel)) (goodIn_sub (fun _ h => List.mem_cons_of_mem _ (List.mem_append_right _ h)) (by decide +kernel))
set_option maxRecDepth 20000 in
theorem gL_apart_X5_apart : GoodIn wsL_apart (wsV RL 24 RX5 yX5_apart wsX5_apart) := goodIn_app (goodIn_of _ (by decide +kernel)) ggL_apart_X5_apart
set_option maxRecDepth 20000 in
theorem ggL_town_X5_town : GoodIn wsL_town wsX5_town := goodIn_ca (goodIn_ca (goodIn_r _ [7, 8, 9, 10, 11, 12, 6, 13, 14, 15, 16, 17, 18, 19, 20, 21, 22, 23, 24, 25, 26, 27, 28, 29, 30, 31, 32, 33, 34, 35, 36, 37, 38, 39, 40, 41, 42, 43, 44, 45, 46, 47] (by decide +kernel) (by decide +kernel)) (goodIn_sub (fun _ h => List.mem_cons_of_mem _ (List.mem_append_left _ (List.mem_append_right _ h))) (by decide +kernel))) (goodIn_sub (fun _ h => List.mem_cons_of_mem _ (List.mem_append_right _ h)) (by decide +kernel))
set_option maxRecDepth 20000 in
theorem gL_town_X5_town : GoodIn wsL_town (wsV RL 27 RX5 yX5_town wsX5_town) := goodIn_app (goodIn_of _ (by decide +kernel)) ggL_town_X5_town
set_option maxRecDepth 20000 in
theorem ggL_away_X5_away : GoodIn wsL_away wsX5_away := goodIn_ca (goodIn_r _ [6, 7, 8, 9, 10, 5, 11, 12, 13, 14, 15, 16, 17, 18, 19, 20, 21, 22, 23, 24, 25, 26, 27, 28, 29, 30, 31, 32, 33, 34, 35, 36, 37, 38, 39, 40, 41] (by decide +kernel) (by decide +kernel)) (goodIn_sub (fun _ h => List.mem_cons_of_mem _ (List.mem_append_right _ h)) (by decide +kernel))
set_option maxRecDepth 20000 in
theorem gL_away_X5_away : GoodIn wsL_away (wsV RL 32 RX5 yX5_away wsX5_away) := goodIn_app (goodIn_of _ (by decide +kernel)) ggL_away_X5_away
set_option maxRecDepth 20000 in
theorem ggL_townAt_X5_townAt : GoodIn wsL_townAt wsX5_townAt := goodIn_ca (goodIn_r _ [6, 7, 8, 9, 10, 5, 11, 12, 13, 14, 15, 16, 17, 18, 19, 20, 21, 22, 23, 24, 25, 26, 27, 28, 29, 30, 31, 32, 33, 34, 35, 36] (by decide +kernel) (by decide +kernel)) (goodIn_sub (fun _ h => List.mem_cons_of_mem _ (List.mem_append_right _ h)) (by decide +kernel))
set_option maxRecDepth 20000 in
theorem gL_townAt_X5_townAt : GoodIn wsL_townAt (wsV RL 35 RX5 yX5_townAt wsX5_townAt) := goodIn_app (goodIn_of _ (by decide +kernel)) ggL_townAt_X5_townAt
set_option maxRecDepth 20000 in
theorem ggL_isUsed_X5_isUsed : GoodIn wsL_isUsed wsX5_isUsed := goodIn_ca (goodIn_r _ [6, 7, 8, 9, 10, 5, 11, 12, 13, 14, 15, 16, 17, 18, 19, 20, 21, 22, 23, 24, 25, 26, 27, 28, 29, 30, 31, 32, 33, 34, 35, 36, 37, 38, 39, 40, 41, 42, 43, 44, 45, 46, 47, 48, 49, 50, 51, 52, 53, 54, 55, 56, 57, 58, 59, 60, 61, 62, 63, 64, 65, 66, 67, 68, 69, 70, 71, 72, 73, 74, 75, 76, 77, 78, 79, 80, 81, 82, 83, 84, 85, 86, 87, 88, 89, 90, 91, 92, 93, 94, 95] (by decide +kernel) (by decide +kernel)) (goodIn_sub (fun _ h => List.mem_cons_of_mem _ (List.mem_append_right _ h)) (by decide +kernel))
set_option maxRecDepth 20000 in
theorem gL_isUsed_X5_isUsed : GoodIn wsL_isUsed (wsV RL 38 RX5 yX5_isUsed wsX5_isUsed) := goodIn_app (goodIn_of _ (by decide +kernel)) ggL_isUsed_X5_isUsed
set_option maxRecDepth 20000 in
theorem ggL_twoWays_X5_twoWays : GoodIn wsL_twoWays wsX5_twoWays := goodIn_ca (goodIn_ca (goodIn_r _ [7, 8, 9, 10, 11, 12, 13, 6, 14, 15, 16, 17, 18, 19, 20, 21, 22, 23, 24, 25, 26, 27, 28, 29, 30, 31, 32, 33, 34, 35, 36, 37, 38, 39, 40, 41, 42, 43, 44, 45, 46, 47, 48, 49, 50, 51, 52, 53, 54, 55, 56, 57, 58, 59, 60, 61, 62, 63, 64, 65, 66, 67, 68, 69, 70, 71, 72, 73, 74, 75, 76, 77, 78, 79, 80, 81, 82, 83, 84, 85, 86, 87, 88, 89, 90, 91, 92, 93, 94, 95, 96] (by decide +kernel) (by decide +kernel)) (goodIn_sub (fun _ h => List.mem_cons_of_mem _ (List.mem_append_left _ (List.mem_append_right _ h))) (by decide +kernel))) (goodIn_sub (fun _ h => List.mem_cons_of_mem _ (List.mem_append_right _ h)) (by decide +kernel))
set_option maxRecDepth 20000 in
theorem gL_twoWays_X5_twoWays : GoodIn wsL_twoWays (wsV RL 42 RX5 yX5_twoWays wsX5_twoWays) := goodIn_app (goodIn_of _ (by decide +kernel)) ggL_twoWays_X5_twoWays
set_option maxRecDepth 20000 in
theorem ggL_pin_X5_pin : GoodIn wsL_pin wsX5_pin := goodIn_ca (goodIn_ca (goodIn_r _ [7, 8, 9, 10, 11, 12, 6, 13, 14, 15, 16, 17, 18, 19, 20, 21, 22, 23, 24, 25, 26, 27, 28, 29, 30] (by decide +kernel) (by decide +kernel)) (goodIn_sub (fun _ h => List.mem_cons_of_mem _ (List.mem_append_left _ (List.mem_append_right _ h))) (by decide +kernel))) (goodIn_sub (fun _ h => List.mem_cons_of_mem _ (List.mem_append_right _ h)) (by decide +kernel))
set_option maxRecDepth 20000 in
theorem gL_pin_X5_pin : GoodIn wsL_pin (wsV RL 45 RX5 yX5_pin wsX5_pin) := goodIn_app (goodIn_of _ (by decide +kernel)) ggL_pin_X5_pin
set_option maxRecDepth 20000 in
theorem ggL_costOf_X5_costOf : GoodIn wsL_costOf wsX5_costOf := goodIn_ca (goodIn_r _ [6, 7, 8, 9, 10, 11, 12, 13, 14, 15, 16, 17, 18, 19, 20, 21, 22, 23, 24, 25, 26, 27, 28, 29, 30, 31, 32, 33, 34, 35, 36, 37, 38, 39, 40, 41, 42, 43, 44, 45, 46, 47, 48, 49, 50, 51, 52, 53, 54, 55] (by decide +kernel) (by decide +kernel)) (goodIn_sub (fun _ h => List.mem_cons_of_mem _ (List.mem_append_right _ h)) (by decide +kernel))
set_option maxRecDepth 20000 in
theorem gL_costOf_X5_costOf : GoodIn wsL_costOf (wsV RL 48 RX5 yX5_costOf wsX5_costOf) := goodIn_app (goodIn_of _ (by decide +kernel)) ggL_costOf_X5_costOf
set_option maxRecDepth 20000 in
theorem ggL_pull_X5_pull : GoodIn wsL_pull wsX5_pull := goodIn_ca (goodIn_r _ [6, 7, 8, 9, 10, 5, 11, 12, 13, 14, 15, 16, 17, 18, 19, 20, 21, 22, 23, 24, 25, 26, 27, 28, 29, 30, 31, 32, 33, 34, 35, 36, 37, 38, 39, 40, 41, 42, 43, 44, 45, 46, 47, 48, 49, 50, 51, 52, 53, 54, 55, 56, 57, 58, 59, 60, 61, 62, 63, 64, 65, 66, 67, 68, 69] (by decide +kernel) (by decide +kernel)) (goodIn_sub (fun _ h => List.mem_cons_of_mem _ (List.mem_append_right _ h)) (by decide +kernel))
set_option maxRecDepth 20000 in
theorem gL_pull_X5_pull : GoodIn wsL_pull (wsV RL 52 RX5 yX5_pull wsX5_pull) := goodIn_app (goodIn_of _ (by decide +kernel)) ggL_pull_X5_pull
set_option maxRecDepth 20000 in
theorem ggL_hold_X5_hold : GoodIn wsL_hold wsX5_hold := goodIn_ca (goodIn_r _ [6, 7, 8, 9, 5, 10, 11, 12, 13, 14, 15, 16, 17, 18, 19, 20, 21, 22, 23, 24, 25, 26, 27, 28, 29, 30] (by decide +kernel) (by decide +kernel)) (goodIn_sub (fun _ h => List.mem_cons_of_mem _ (List.mem_append_right _ h)) (by decide +kernel))
set_option maxRecDepth 20000 in
theorem gL_hold_X5_hold : GoodIn wsL_hold (wsV RL 55 RX5 yX5_hold wsX5_hold) := goodIn_app (goodIn_of _ (by decide +kernel)) ggL_hold_X5_hold
set_option maxRecDepth 20000 in
theorem ggL_breathe_X5_breathe : GoodIn wsL_breathe wsX5_breathe := goodIn_ca (goodIn_r _ [6, 7, 8, 9, 10, 11, 12, 13, 14, 15, 16, 17, 18, 19, 20, 21, 22, 23, 24, 25, 26, 27, 28, 29, 30, 31, 32, 33, 34, 35, 36, 37, 38, 39, 40, 41, 42, 43, 44, 45, 46, 47, 48, 49, 50, 51, 52, 53, 54, 55, 56, 57, 58, 59, 60, 61, 62, 63, 64, 65, 66, 67, 68, 69, 70, 71, 72, 73, 74, 75, 76, 77, 78, 79, 80] (by decide +kernel) (by decide +kernel)) (goodIn_sub (fun _ h => List.mem_cons_of_mem _ (List.mem_append_right _ h)) (by decide +kernel))
set_option maxRecDepth 20000 in
theorem gL_breathe_X5_breathe : GoodIn wsL_breathe (wsV RL 59 RX5 yX5_breathe wsX5_breathe) := goodIn_app (goodIn_of _ (by decide +kernel)) ggL_breathe_X5_breathe
set_option maxRecDepth 20000 in
theorem ggL_bubbleAt_X5_bubbleAt : GoodIn wsL_bubbleAt wsX5_bubbleAt := goodIn_ca (goodIn_r _ [6, 7, 8, 9, 5, 10, 11, 12, 13, 14, 15, 16, 17, 18, 19, 20, 21, 22, 23, 24, 25, 26, 27, 28, 29, 30] (by decide +kernel) (by decide +kernel)) (goodIn_sub (fun _ h => List.mem_cons_of_mem _ (List.mem_append_right _ h)) (by decide +kernel))
set_option maxRecDepth 20000 in
theorem gL_bubbleAt_X5_bubbleAt : GoodIn wsL_bubbleAt (wsV RL 62 RX5 yX5_bubbleAt wsX5_bubbleAt) := goodIn_app (goodIn_of _ (by decide +kernel)) ggL_bubbleAt_X5_bubbleAt
set_option maxRecDepth 20000 in
theorem ggL_bubble_X5_bubble : GoodIn wsL_bubble wsX5_bubble := goodIn_ca (goodIn_ca (goodIn_r _ [7, 8, 9, 10, 11, 12, 13, 6, 14, 15, 16, 17, 18, 19, 20, 21, 22, 23, 24, 25, 26, 27, 28, 29, 30, 31, 32, 33, 34, 35, 36, 37, 38, 39, 40, 41, 42, 43, 44, 45, 46, 47, 48, 49, 50, 51, 52, 53, 54, 55, 56, 57, 58, 59, 60, 61, 62, 63, 64, 65, 66, 67, 68, 69, 70, 71, 72, 73, 74, 75, 76, 77, 78, 79, 80, 81, 82, 83, 84, 85, 86, 87, 88, 89, 90, 91, 92, 93, 94, 95, 96, 97, 98, 99, 100, 101, 102, 103, 104] (by decide +kernel) (by decide +kernel)) (goodIn_sub (fun _ h => List.mem_cons_of_mem _ (List.mem_append_left _ (List.mem_append_right _ h))) (by decide +kernel))) (goodIn_sub (fun _ h => List.mem_cons_of_mem _ (List.mem_append_right _ h)) (by decide +kernel))
set_option maxRecDepth 20000 in
theorem gL_bubble_X5_bubble : GoodIn wsL_bubble (wsV RL 65 RX5 yX5_bubble wsX5_bubble) := goodIn_app (goodIn_of _ (by decide +kernel)) ggL_bubble_X5_bubble
set_option maxRecDepth 20000 in
theorem ggL_wall_X5_wall : GoodIn wsL_wall wsX5_wall := goodIn_ca (goodIn_r _ [6, 7, 8, 9, 10, 5, 11, 12, 13, 14, 15, 16, 17, 18, 19, 20, 21, 22, 23, 24, 25, 26, 27, 28, 29, 30, 31, 32, 33, 34, 35, 36, 37, 38, 39, 40, 41, 42, 43, 44, 45, 46, 47, 48, 49, 50, 51, 52, 53, 54, 55, 56, 57, 58] (by decide +kernel) (by decide +kernel)) (goodIn_sub (fun _ h => List.mem_cons_of_mem _ (List.mem_append_right _ h)) (by decide +kernel))
set_option maxRecDepth 20000 in
theorem gL_wall_X5_wall : GoodIn wsL_wall (wsV RL 68 RX5 yX5_wall wsX5_wall) := goodIn_app (goodIn_of _ (by decide +kernel)) ggL_wall_X5_wall
set_option maxRecDepth 20000 in
theorem ggL_corners_X5_corners : GoodIn wsL_corners wsX5_corners := goodIn_ca (goodIn_r _ [6, 7, 8, 9, 10, 11, 12, 13, 14, 15, 16, 17, 18, 19, 20, 21, 22, 23, 24, 25, 26, 27, 28, 29, 30, 31, 32, 33, 34, 35, 36, 37, 38] (by decide +kernel) (by decide +kernel)) (goodIn_sub (fun _ h => List.mem_cons_of_mem _ (List.mem_append_right _ h)) (by decide +kernel))
set_option maxRecDepth 20000 in
theorem gL_corners_X5_corners : GoodIn wsL_corners (wsV RL 71 RX5 yX5_corners wsX5_corners) := goodIn_app (goodIn_of _ (by decide +kernel)) ggL_corners_X5_corners
set_option maxRecDepth 20000 in
theorem ggL_energy_X5_energy : GoodIn wsL_energy wsX5_energy := goodIn_ca (goodIn_r _ [6, 7, 8, 9, 10, 11, 12, 13, 14, 15, 16, 17, 18, 19, 20, 21, 22, 23, 24, 25, 26, 27, 28, 29, 30, 31, 32, 33, 34, 35, 36, 37, 38, 39, 40, 41, 42, 43, 44, 45, 46, 47, 48, 49, 50, 51, 52, 53, 54, 55, 56, 57, 58, 59, 60, 61, 62, 63, 64, 65, 66, 67, 68, 69, 70, 71, 72, 73, 74, 75, 76, 77, 78, 79, 80, 81, 82, 83, 84, 85, 86, 87, 88, 89, 90, 91, 92, 93, 94, 95, 96, 97, 98] (by decide +kernel) (by decide +kernel)) (goodIn_sub (fun _ h => List.mem_cons_of_mem _ (List.mem_append_right _ h)) (by decide +kernel))
set_option maxRecDepth 20000 in
theorem gL_energy_X5_energy : GoodIn wsL_energy (wsV RL 74 RX5 yX5_energy wsX5_energy) := goodIn_app (goodIn_of _ (by decide +kernel)) ggL_energy_X5_energy
set_option maxRecDepth 20000 in
theorem ggL_law_X5_init : GoodIn wsL_law wsX5_init := goodIn_r _ [10, 11, 12, 13, 14, 15, 16, 17, 18, 19, 20, 21, 22, 23, 24, 25, 26, 27, 28, 29, 30, 31, 32, 33, 34, 35, 36, 37, 38, 39, 40, 41, 42, 43, 44, 45, 46, 47, 48, 49, 50, 51, 52, 53, 54, 55, 56, 57, 58, 59, 60, 61, 62, 63, 64, 65, 66, 67, 68, 69, 70, 71, 72, 73, 74, 75, 76, 77, 78, 914, 915, 916, 917, 918, 919, 920, 890, 891, 892, 893, 894, 921, 922, 923, 924, 925, 926, 927, 928, 929, 930, 931, 932, 933, 934, 935, 936, 937, 938, 939, 940] (by decide +kernel) (by decide +kernel)
set_option maxRecDepth 20000 in
theorem gL_law_X5_init : GoodIn wsL_law (wsX5_init) := ggL_law_X5_init
set_option maxRecDepth 20000 in
theorem ggL_law_X6_init : GoodIn wsL_law wsX6_init := goodIn_r _ [81, 82, 12, 13, 38, 83, 84, 85, 86, 87, 73, 88, 89, 90, 91, 92, 93, 94, 95, 96, 97, 895, 896, 897, 898, 899, 900, 901, 902, 903, 904, 905, 906, 907, 908, 909, 910, 911, 912, 913] (by decide +kernel) (by decide +kernel)
set_option maxRecDepth 20000 in
theorem gL_law_X6_init : GoodIn wsL_law (wsX6_init) := ggL_law_X6_init
set_option maxRecDepth 20000 in
theorem ggL_law_L_cost : GoodIn wsL_law wsL_cost := goodIn_ca (goodIn_r _ [101, 102, 103, 104, 105, 2, 106, 107, 108, 33, 17, 109, 110, 111, 32, 112, 71, 113, 114, 115, 116, 117, 118, 16, 119, 39, 120, 121, 122, 123, 40, 124, 125, 126, 127, 43, 128, 129, 130, 131, 44, 45, 42, 132, 133, 134, 135, 25, 136, 137, 138, 24, 139, 57, 140, 141, 142, 143, 77, 890, 891, 892, 893, 894, 934, 935, 936, 937, 938, 939, 940, 914, 915, 916, 917, 918, 919, 920, 923, 924, 925, 926, 927, 928, 929] (by decide +kernel) (by decide +kernel)) (goodIn_sub (fun _ h => List.mem_append_left _ (List.mem_append_left _ (List.mem_append_right _ h))) (by decide +kernel))
set_option maxRecDepth 20000 in
theorem gL_law_L_cost : GoodIn wsL_law (va_wsS RL 81 yL_cost wsL_cost) := goodIn_app (goodIn_of _ (by decide +kernel)) ggL_law_L_cost
set_option maxRecDepth 20000 in
theorem ggL_law_X6_cost : GoodIn wsL_law wsX6_cost := goodIn_r _ [147, 83, 148, 149, 150, 5, 151, 152, 153, 154, 155, 156, 157, 158, 159, 160, 87, 161, 162, 163, 164, 165, 166, 167, 168, 169, 170, 84, 895, 896, 897, 898, 899, 900, 901, 902, 903, 904, 905, 906, 907, 908, 909, 910, 911, 912, 913] (by decide +kernel) (by decide +kernel)
set_option maxRecDepth 20000 in
theorem gL_law_X6_cost : GoodIn wsL_law (wsV RL 86 RX6 yX6_cost wsX6_cost) := goodIn_app (goodIn_of _ (by decide +kernel)) ggL_law_X6_cost
set_option maxRecDepth 20000 in
theorem ggL_law_X6_thrown : GoodIn wsL_law wsX6_thrown := goodIn_r _ [174, 156, 895, 896, 897, 898, 899, 900, 901, 902, 903, 904, 905, 906, 907, 908, 909, 910, 911, 912, 913] (by decide +kernel) (by decide +kernel)
set_option maxRecDepth 20000 in
theorem gL_law_X6_thrown : GoodIn wsL_law (wsV RL 87 RX6 yX6_thrown wsX6_thrown) := goodIn_app (goodIn_of _ (by decide +kernel)) ggL_law_X6_thrown
set_option maxRecDepth 20000 in
theorem ggL_law_L_lay : GoodIn wsL_law wsL_lay := goodIn_ca (goodIn_ca (goodIn_r _ [177, 178, 102, 179, 180, 181, 2, 182, 107, 108, 33, 17, 183, 184, 185, 186, 187, 109, 110, 111, 32, 112, 71, 113, 114, 115, 116, 117, 118, 16, 119, 39, 120, 121, 122, 123, 40, 124, 125, 126, 127, 43, 188, 189, 190, 191, 42, 44, 45, 132, 133, 134, 135, 25, 136, 137, 138, 24, 139, 57, 140, 141, 142, 143, 77, 890, 891, 892, 893, 894, 934, 935, 936, 937, 938, 939, 940, 914, 915, 916, 917, 918, 919, 920, 923, 924, 925, 926, 927, 928, 929] (by decide +kernel) (by decide +kernel)) (goodIn_sub (fun _ h => List.mem_append_left _ (List.mem_append_left _ (List.mem_append_right _ h))) (by decide +kernel))) (goodIn_sub (fun _ h => List.mem_append_left _ (List.mem_append_right _ h)) (by decide +kernel))
set_option maxRecDepth 20000 in
theorem gL_law_L_lay : GoodIn wsL_law (va_wsS RL 91 yL_lay wsL_lay) := goodIn_app (goodIn_of _ (by decide +kernel)) ggL_law_L_lay
set_option maxRecDepth 20000 in
theorem ggL_law_X6_lay : GoodIn wsL_law wsX6_lay := goodIn_r _ [195, 84, 148, 196, 197, 5, 198, 149, 150, 151, 152, 153, 154, 155, 156, 157, 158, 159, 160, 87, 161, 162, 163, 164, 165, 166, 167, 168, 169, 170, 83, 895, 896, 897, 898, 899, 900, 901, 902, 903, 904, 905, 906, 907, 908, 909, 910, 911, 912, 913] (by decide +kernel) (by decide +kernel)
set_option maxRecDepth 20000 in
theorem gL_law_X6_lay : GoodIn wsL_law (wsV RL 93 RX6 yX6_lay wsX6_lay) := goodIn_app (goodIn_of _ (by decide +kernel)) ggL_law_X6_lay
set_option maxRecDepth 20000 in
theorem ggL_law_L_edge : GoodIn wsL_law wsL_edge := goodIn_ca (goodIn_r _ [201, 178, 202, 203, 204, 2, 205, 17, 183, 184, 185, 186, 187, 206, 125, 126, 16, 127, 43, 890, 891, 892, 893, 894, 914, 915, 916, 917, 918, 919, 920] (by decide +kernel) (by decide +kernel)) (goodIn_sub (fun _ h => List.mem_append_left _ (List.mem_append_right _ h)) (by decide +kernel))
set_option maxRecDepth 20000 in
theorem gL_law_L_edge : GoodIn wsL_law (va_wsS RL 94 yL_edge wsL_edge) := goodIn_app (goodIn_of _ (by decide +kernel)) ggL_law_L_edge
set_option maxRecDepth 20000 in
theorem ggL_law_X6_edge : GoodIn wsL_law wsX6_edge := goodIn_r _ [210, 196, 197, 5, 198, 149, 150, 151, 152, 153, 154, 155, 156, 167, 168, 169, 170, 83, 84, 895, 896, 897, 898, 899, 900, 901, 902, 903, 904, 905, 906, 907, 908, 909, 910, 911, 912, 913] (by decide +kernel) (by decide +kernel)
set_option maxRecDepth 20000 in
theorem gL_law_X6_edge : GoodIn wsL_law (wsV RL 97 RX6 yX6_edge wsX6_edge) := goodIn_app (goodIn_of _ (by decide +kernel)) ggL_law_X6_edge
set_option maxRecDepth 20000 in
theorem ggL_law_L_apart : GoodIn wsL_law wsL_apart := goodIn_ca (goodIn_r _ [213, 178, 214, 215, 216, 2, 217, 21, 17, 218, 219, 220, 186, 187, 221, 222, 223, 20, 224, 49, 225, 226, 227, 16, 228, 229, 230, 231, 232, 233, 234, 235, 236, 237, 39, 40, 43, 890, 891, 892, 893, 894, 921, 922, 914, 915, 916, 917, 918, 919, 920] (by decide +kernel) (by decide +kernel)) (goodIn_sub (fun _ h => List.mem_append_left _ (List.mem_append_right _ h)) (by decide +kernel))
set_option maxRecDepth 20000 in
theorem gL_law_L_apart : GoodIn wsL_law (va_wsS RL 98 yL_apart wsL_apart) := goodIn_app (goodIn_of _ (by decide +kernel)) ggL_law_L_apart
set_option maxRecDepth 20000 in
theorem ggL_law_X6_apart : GoodIn wsL_law wsX6_apart := goodIn_r _ [241, 242, 243, 5, 244, 149, 150, 151, 152, 153, 154, 155, 156, 245, 246, 247, 248, 89, 249, 250, 251, 252, 253, 161, 162, 163, 164, 165, 166, 167, 168, 169, 170, 83, 84, 895, 896, 897, 898, 899, 900, 901, 902, 903, 904, 905, 906, 907, 908, 909, 910, 911, 912, 913] (by decide +kernel) (by decide +kernel)
set_option maxRecDepth 20000 in
theorem gL_law_X6_apart : GoodIn wsL_law (wsV RL 100 RX6 yX6_apart wsX6_apart) := goodIn_app (goodIn_of _ (by decide +kernel)) ggL_law_X6_apart
set_option maxRecDepth 20000 in
theorem ggL_law_L_town : GoodIn wsL_law wsL_town := goodIn_ca (goodIn_ca (goodIn_r _ [256, 178, 257, 258, 259, 260, 2, 261, 262, 263, 25, 218, 219, 220, 186, 187, 264, 265, 266, 24, 267, 55, 54, 268, 269, 270, 271, 272, 273, 274, 275, 276, 137, 138, 139, 57, 890, 891, 892, 893, 894, 923, 924, 925, 926, 927, 928, 929] (by decide +kernel) (by decide +kernel)) (goodIn_sub (fun _ h => List.mem_append_right _ h) (by decide +kernel))) (goodIn_sub (fun _ h => List.mem_append_left _ (List.mem_append_right _ h)) (by decide +kernel))
set_option maxRecDepth 20000 in
theorem gL_law_L_town : GoodIn wsL_law (va_wsS RL 101 yL_town wsL_town) := goodIn_app (goodIn_of _ (by decide +kernel)) ggL_law_L_town
set_option maxRecDepth 20000 in
theorem ggL_law_X6_town : GoodIn wsL_law wsX6_town := goodIn_r _ [280, 281, 85, 242, 243, 5, 244, 149, 150, 151, 282, 283, 284, 285, 152, 153, 154, 155, 156, 895, 896, 897, 898, 899, 900, 901, 902, 903, 904, 905, 906, 907, 908, 909, 910, 911, 912, 913] (by decide +kernel) (by decide +kernel)
set_option maxRecDepth 20000 in
theorem gL_law_X6_town : GoodIn wsL_law (wsV RL 103 RX6 yX6_town wsX6_town) := goodIn_app (goodIn_of _ (by decide +kernel)) ggL_law_X6_town
set_option maxRecDepth 20000 in
theorem ggL_law_L_away : GoodIn wsL_law wsL_away := goodIn_ca (goodIn_r _ [288, 178, 289, 290, 291, 2, 292, 25, 293, 294, 295, 296, 186, 187, 297, 298, 299, 24, 300, 55, 301, 302, 303, 304, 54, 276, 137, 138, 139, 57, 890, 891, 892, 893, 894, 923, 924, 925, 926, 927, 928, 929] (by decide +kernel) (by decide +kernel)) (goodIn_sub (fun _ h => List.mem_append_left _ (List.mem_append_right _ h)) (by decide +kernel))
set_option maxRecDepth 20000 in
theorem gL_law_L_away : GoodIn wsL_law (va_wsS RL 104 yL_away wsL_away) := goodIn_app (goodIn_of _ (by decide +kernel)) ggL_law_L_away
set_option maxRecDepth 20000 in
theorem ggL_law_X6_away : GoodIn wsL_law wsX6_away := goodIn_r _ [308, 281, 85, 149, 150, 5, 151, 152, 153, 154, 155, 156, 895, 896, 897, 898, 899, 900, 901, 902, 903, 904, 905, 906, 907, 908, 909, 910, 911, 912, 913] (by decide +kernel) (by decide +kernel)
set_option maxRecDepth 20000 in
theorem gL_law_X6_away : GoodIn wsL_law (wsV RL 106 RX6 yX6_away wsX6_away) := goodIn_app (goodIn_of _ (by decide +kernel)) ggL_law_X6_away
set_option maxRecDepth 20000 in
theorem ggL_law_L_townAt : GoodIn wsL_law wsL_townAt := goodIn_ca (goodIn_r _ [311, 178, 312, 313, 314, 2, 315, 25, 293, 294, 295, 296, 186, 187, 297, 298, 299, 24, 300, 55, 316, 317, 318, 319, 54, 890, 891, 892, 893, 894, 923, 924, 925, 926, 927, 928, 929] (by decide +kernel) (by decide +kernel)) (goodIn_sub (fun _ h => List.mem_append_left _ (List.mem_append_right _ h)) (by decide +kernel))
set_option maxRecDepth 20000 in
theorem gL_law_L_townAt : GoodIn wsL_law (va_wsS RL 107 yL_townAt wsL_townAt) := goodIn_app (goodIn_of _ (by decide +kernel)) ggL_law_L_townAt
set_option maxRecDepth 20000 in
theorem ggL_law_X6_townAt : GoodIn wsL_law wsX6_townAt := goodIn_r _ [323, 281, 85, 149, 150, 5, 151, 152, 153, 154, 155, 156, 895, 896, 897, 898, 899, 900, 901, 902, 903, 904, 905, 906, 907, 908, 909, 910, 911, 912, 913] (by decide +kernel) (by decide +kernel)
set_option maxRecDepth 20000 in
theorem gL_law_X6_townAt : GoodIn wsL_law (wsV RL 109 RX6 yX6_townAt wsX6_townAt) := goodIn_app (goodIn_of _ (by decide +kernel)) ggL_law_X6_townAt
set_option maxRecDepth 20000 in
theorem ggL_law_X5_least : GoodIn wsL_law wsX5_least := goodIn_r _ [327, 25, 17, 328, 329, 330, 24, 331, 55, 56, 54, 332, 333, 334, 335, 57, 336, 226, 227, 16, 228, 229, 230, 231, 232, 233, 234, 235, 236, 237, 39, 40, 43, 337, 338, 339, 340, 341, 342, 343, 344, 345, 346, 347, 348, 349, 350, 351, 352, 353, 354, 355, 356, 357, 890, 891, 892, 893, 894, 923, 924, 925, 926, 927, 928, 929, 914, 915, 916, 917, 918, 919, 920] (by decide +kernel) (by decide +kernel)
set_option maxRecDepth 20000 in
theorem gL_law_X5_least : GoodIn wsL_law (wsV RL 110 RX5 yX5_least wsX5_least) := goodIn_app (goodIn_of _ (by decide +kernel)) ggL_law_X5_least
set_option maxRecDepth 20000 in
theorem ggL_law_X6_least : GoodIn wsL_law wsX6_least := goodIn_r _ [361, 156, 362, 363, 364, 5, 365, 281, 90, 85, 366, 367, 368, 369, 253, 91, 370, 371, 372, 373, 97, 161, 162, 163, 164, 165, 166, 167, 168, 169, 170, 83, 84, 895, 896, 897, 898, 899, 900, 901, 902, 903, 904, 905, 906, 907, 908, 909, 910, 911, 912, 913] (by decide +kernel) (by decide +kernel)
set_option maxRecDepth 20000 in
theorem gL_law_X6_least : GoodIn wsL_law (wsV RL 113 RX6 yX6_least wsX6_least) := goodIn_app (goodIn_of _ (by decide +kernel)) ggL_law_X6_least
set_option maxRecDepth 20000 in
theorem ggL_law_X5_leastAnew : GoodIn wsL_law wsX5_leastAnew := goodIn_r _ [377, 25, 17, 378, 379, 380, 24, 381, 55, 352, 59, 353, 354, 355, 356, 382, 383, 384, 385, 58, 54, 336, 226, 227, 16, 228, 229, 230, 231, 232, 233, 234, 235, 236, 237, 39, 40, 43, 386, 387, 388, 389, 890, 891, 892, 893, 894, 923, 924, 925, 926, 927, 928, 929, 914, 915, 916, 917, 918, 919, 920] (by decide +kernel) (by decide +kernel)
set_option maxRecDepth 20000 in
theorem gL_law_X5_leastAnew : GoodIn wsL_law (wsV RL 114 RX5 yX5_leastAnew wsX5_leastAnew) := goodIn_app (goodIn_of _ (by decide +kernel)) ggL_law_X5_leastAnew
set_option maxRecDepth 20000 in
theorem ggL_law_X6_leastAnew : GoodIn wsL_law wsX6_leastAnew := goodIn_r _ [393, 156, 281, 362, 363, 364, 5, 365, 90, 85, 366, 367, 368, 369, 253, 91, 370, 371, 372, 373, 97, 161, 162, 163, 164, 165, 166, 167, 168, 169, 170, 83, 84, 895, 896, 897, 898, 899, 900, 901, 902, 903, 904, 905, 906, 907, 908, 909, 910, 911, 912, 913] (by decide +kernel) (by decide +kernel)
set_option maxRecDepth 20000 in
theorem gL_law_X6_leastAnew : GoodIn wsL_law (wsV RL 117 RX6 yX6_leastAnew wsX6_leastAnew) := goodIn_app (goodIn_of _ (by decide +kernel)) ggL_law_X6_leastAnew
set_option maxRecDepth 20000 in
theorem ggL_law_X5_bound : GoodIn wsL_law wsX5_bound := goodIn_r _ [397, 25, 17, 398, 399, 400, 24, 401, 55, 402, 403, 355, 404, 382, 383, 384, 385, 58, 54, 336, 226, 227, 16, 228, 229, 230, 231, 232, 233, 234, 235, 236, 237, 39, 40, 43, 405, 406, 407, 408, 60, 353, 354, 356, 409, 410, 411, 412, 413, 414, 415, 416, 417, 418, 419, 420, 421, 422, 423, 424, 425, 426, 427, 890, 891, 892, 893, 894, 923, 924, 925, 926, 927, 928, 929, 914, 915, 916, 917, 918, 919, 920] (by decide +kernel) (by decide +kernel)
set_option maxRecDepth 20000 in
theorem gL_law_X5_bound : GoodIn wsL_law (wsV RL 118 RX5 yX5_bound wsX5_bound) := goodIn_app (goodIn_of _ (by decide +kernel)) ggL_law_X5_bound
set_option maxRecDepth 20000 in
theorem ggL_law_X6_bound : GoodIn wsL_law wsX6_bound := goodIn_r _ [431, 156, 432, 433, 434, 5, 435, 281, 85, 436, 437, 438, 439, 253, 245, 246, 247, 248, 89, 249, 250, 251, 252, 161, 162, 163, 164, 165, 166, 167, 168, 169, 170, 83, 84, 895, 896, 897, 898, 899, 900, 901, 902, 903, 904, 905, 906, 907, 908, 909, 910, 911, 912, 913] (by decide +kernel) (by decide +kernel)
set_option maxRecDepth 20000 in
theorem gL_law_X6_bound : GoodIn wsL_law (wsV RL 121 RX6 yX6_bound wsX6_bound) := goodIn_app (goodIn_of _ (by decide +kernel)) ggL_law_X6_bound
set_option maxRecDepth 20000 in
theorem ggL_law_X5_gap : GoodIn wsL_law wsX5_gap := goodIn_r _ [443, 25, 17, 328, 329, 330, 24, 331, 55, 56, 54, 332, 333, 334, 335, 57, 336, 226, 227, 16, 228, 229, 230, 231, 232, 233, 234, 235, 236, 237, 39, 40, 43, 337, 338, 339, 340, 341, 342, 343, 344, 345, 346, 347, 348, 349, 350, 351, 352, 353, 354, 355, 356, 357, 398, 399, 400, 401, 402, 403, 404, 382, 383, 384, 385, 58, 405, 406, 407, 408, 60, 409, 410, 411, 412, 413, 414, 415, 416, 417, 418, 419, 420, 421, 422, 423, 424, 425, 426, 427, 890, 891, 892, 893, 894, 923, 924, 925, 926, 927, 928, 929, 914, 915, 916, 917, 918, 919, 920] (by decide +kernel) (by decide +kernel)
set_option maxRecDepth 20000 in
theorem gL_law_X5_gap : GoodIn wsL_law (wsV RL 122 RX5 yX5_gap wsX5_gap) := goodIn_app (goodIn_of _ (by decide +kernel)) ggL_law_X5_gap
set_option maxRecDepth 20000 in
theorem ggL_law_X6_gap : GoodIn wsL_law wsX6_gap := goodIn_r _ [447, 156, 362, 363, 364, 5, 365, 281, 90, 85, 366, 367, 368, 369, 253, 91, 370, 371, 372, 373, 97, 161, 162, 163, 164, 165, 166, 167, 168, 169, 170, 83, 84, 432, 433, 434, 435, 436, 437, 438, 439, 245, 246, 247, 248, 89, 249, 250, 251, 252, 895, 896, 897, 898, 899, 900, 901, 902, 903, 904, 905, 906, 907, 908, 909, 910, 911, 912, 913] (by decide +kernel) (by decide +kernel)
set_option maxRecDepth 20000 in
theorem gL_law_X6_gap : GoodIn wsL_law (wsV RL 125 RX6 yX6_gap wsX6_gap) := goodIn_app (goodIn_of _ (by decide +kernel)) ggL_law_X6_gap
set_option maxRecDepth 20000 in
theorem ggL_law_L_isUsed : GoodIn wsL_law wsL_isUsed := goodIn_ca (goodIn_r _ [450, 178, 451, 452, 453, 2, 454, 25, 17, 183, 184, 185, 186, 187, 455, 456, 457, 24, 458, 55, 56, 54, 332, 333, 334, 335, 57, 336, 226, 227, 16, 228, 229, 230, 231, 232, 233, 234, 235, 236, 237, 39, 40, 43, 337, 338, 339, 340, 341, 342, 343, 344, 345, 346, 347, 348, 349, 350, 351, 352, 353, 354, 355, 356, 357, 459, 117, 118, 119, 460, 121, 122, 123, 461, 125, 126, 127, 890, 891, 892, 893, 894, 923, 924, 925, 926, 927, 928, 929, 914, 915, 916, 917, 918, 919, 920] (by decide +kernel) (by decide +kernel)) (goodIn_sub (fun _ h => List.mem_append_left _ (List.mem_append_right _ h)) (by decide +kernel))
set_option maxRecDepth 20000 in
theorem gL_law_L_isUsed : GoodIn wsL_law (va_wsS RL 126 yL_isUsed wsL_isUsed) := goodIn_app (goodIn_of _ (by decide +kernel)) ggL_law_L_isUsed
set_option maxRecDepth 20000 in
theorem ggL_law_X6_isUsed : GoodIn wsL_law wsX6_isUsed := goodIn_r _ [465, 281, 90, 97, 196, 197, 5, 198, 149, 150, 151, 152, 153, 154, 155, 156, 362, 363, 364, 365, 85, 366, 367, 368, 369, 253, 91, 370, 371, 372, 373, 161, 162, 163, 164, 165, 166, 167, 168, 169, 170, 83, 84, 895, 896, 897, 898, 899, 900, 901, 902, 903, 904, 905, 906, 907, 908, 909, 910, 911, 912, 913] (by decide +kernel) (by decide +kernel)
set_option maxRecDepth 20000 in
theorem gL_law_X6_isUsed : GoodIn wsL_law (wsV RL 128 RX6 yX6_isUsed wsX6_isUsed) := goodIn_app (goodIn_of _ (by decide +kernel)) ggL_law_X6_isUsed
set_option maxRecDepth 20000 in
theorem ggL_law_L_twoWays : GoodIn wsL_law wsL_twoWays := goodIn_ca (goodIn_ca (goodIn_r _ [468, 178, 102, 469, 470, 471, 2, 472, 107, 108, 21, 17, 218, 219, 220, 186, 187, 473, 474, 475, 20, 476, 49, 477, 222, 223, 224, 225, 226, 227, 16, 228, 229, 230, 231, 232, 233, 234, 235, 236, 237, 39, 40, 43, 478, 479, 480, 481, 50, 482, 483, 484, 485, 486, 487, 488, 489, 41, 490, 491, 492, 493, 494, 125, 126, 127, 495, 496, 497, 498, 499, 500, 117, 118, 119, 501, 121, 122, 123, 502, 503, 504, 505, 890, 891, 892, 893, 894, 921, 922, 914, 915, 916, 917, 918, 919, 920] (by decide +kernel) (by decide +kernel)) (goodIn_sub (fun _ h => List.mem_append_left _ (List.mem_append_left _ (List.mem_append_right _ h))) (by decide +kernel))) (goodIn_sub (fun _ h => List.mem_append_left _ (List.mem_append_right _ h)) (by decide +kernel))
set_option maxRecDepth 20000 in
theorem gL_law_L_twoWays : GoodIn wsL_law (va_wsS RL 129 yL_twoWays wsL_twoWays) := goodIn_app (goodIn_of _ (by decide +kernel)) ggL_law_L_twoWays
set_option maxRecDepth 20000 in
theorem ggL_law_X6_twoWays : GoodIn wsL_law wsX6_twoWays := goodIn_r _ [509, 92, 242, 243, 5, 244, 149, 150, 151, 152, 153, 154, 155, 156, 510, 511, 512, 513, 89, 253, 93, 161, 162, 163, 164, 165, 166, 514, 515, 516, 517, 167, 168, 169, 170, 83, 84, 895, 896, 897, 898, 899, 900, 901, 902, 903, 904, 905, 906, 907, 908, 909, 910, 911, 912, 913] (by decide +kernel) (by decide +kernel)
set_option maxRecDepth 20000 in
theorem gL_law_X6_twoWays : GoodIn wsL_law (wsV RL 131 RX6 yX6_twoWays wsX6_twoWays) := goodIn_app (goodIn_of _ (by decide +kernel)) ggL_law_X6_twoWays
set_option maxRecDepth 20000 in
theorem ggL_law_L_pin : GoodIn wsL_law wsL_pin := goodIn_ca (goodIn_ca (goodIn_r _ [520, 178, 102, 521, 522, 523, 2, 524, 107, 108, 29, 218, 219, 220, 186, 187, 525, 526, 527, 28, 528, 64, 890, 891, 892, 893, 894, 930, 931, 932, 933] (by decide +kernel) (by decide +kernel)) (goodIn_sub (fun _ h => List.mem_append_left _ (List.mem_append_left _ (List.mem_append_right _ h))) (by decide +kernel))) (goodIn_sub (fun _ h => List.mem_append_left _ (List.mem_append_right _ h)) (by decide +kernel))
set_option maxRecDepth 20000 in
theorem gL_law_L_pin : GoodIn wsL_law (va_wsS RL 132 yL_pin wsL_pin) := goodIn_app (goodIn_of _ (by decide +kernel)) ggL_law_L_pin
set_option maxRecDepth 20000 in
theorem ggL_law_X6_pin : GoodIn wsL_law wsX6_pin := goodIn_r _ [532, 86, 242, 243, 5, 244, 149, 150, 151, 152, 153, 154, 155, 156, 895, 896, 897, 898, 899, 900, 901, 902, 903, 904, 905, 906, 907, 908, 909, 910, 911, 912, 913] (by decide +kernel) (by decide +kernel)
set_option maxRecDepth 20000 in
theorem gL_law_X6_pin : GoodIn wsL_law (wsV RL 134 RX6 yX6_pin wsX6_pin) := goodIn_app (goodIn_of _ (by decide +kernel)) ggL_law_X6_pin
set_option maxRecDepth 20000 in
theorem ggL_law_X5_film : GoodIn wsL_law wsX5_film := goodIn_r _ [536, 29, 17, 537, 538, 539, 28, 540, 541, 542, 543, 544, 65, 545, 546, 547, 548, 66, 64, 67, 549, 550, 551, 552, 553, 487, 488, 16, 489, 41, 554, 491, 492, 493, 39, 40, 555, 556, 557, 558, 559, 125, 126, 127, 43, 560, 117, 118, 119, 561, 562, 563, 564, 565, 566, 567, 568, 569, 570, 354, 355, 356, 571, 572, 573, 574, 575, 576, 577, 578, 579, 580, 581, 582, 583, 584, 585, 586, 121, 122, 123, 890, 891, 892, 893, 894, 930, 931, 932, 933, 914, 915, 916, 917, 918, 919, 920] (by decide +kernel) (by decide +kernel)
set_option maxRecDepth 20000 in
theorem gL_law_X5_film : GoodIn wsL_law (wsV RL 135 RX5 yX5_film wsX5_film) := goodIn_app (goodIn_of _ (by decide +kernel)) ggL_law_X5_film
set_option maxRecDepth 20000 in
theorem ggL_law_X6_film : GoodIn wsL_law wsX6_film := goodIn_r _ [590, 156, 591, 592, 593, 5, 594, 92, 595, 596, 597, 598, 94, 86, 93, 161, 162, 163, 164, 165, 166, 599, 600, 601, 602, 167, 168, 169, 170, 83, 84, 603, 604, 605, 606, 607, 608, 609, 610, 895, 896, 897, 898, 899, 900, 901, 902, 903, 904, 905, 906, 907, 908, 909, 910, 911, 912, 913] (by decide +kernel) (by decide +kernel)
set_option maxRecDepth 20000 in
theorem gL_law_X6_film : GoodIn wsL_law (wsV RL 138 RX6 yX6_film wsX6_film) := goodIn_app (goodIn_of _ (by decide +kernel)) ggL_law_X6_film
set_option maxRecDepth 20000 in
theorem ggL_law_X5_proof : GoodIn wsL_law wsX5_proof := goodIn_r _ [614, 29, 17, 615, 616, 617, 28, 618, 64, 65, 541, 542, 543, 544, 545, 546, 547, 548, 66, 67, 549, 550, 551, 552, 553, 487, 488, 16, 489, 41, 554, 491, 492, 493, 39, 40, 555, 556, 557, 558, 559, 125, 126, 127, 43, 560, 117, 118, 119, 561, 562, 563, 564, 565, 566, 567, 568, 569, 570, 354, 355, 356, 571, 572, 573, 574, 586, 121, 122, 123, 890, 891, 892, 893, 894, 930, 931, 932, 933, 914, 915, 916, 917, 918, 919, 920] (by decide +kernel) (by decide +kernel)
set_option maxRecDepth 20000 in
theorem gL_law_X5_proof : GoodIn wsL_law (wsV RL 139 RX5 yX5_proof wsX5_proof) := goodIn_app (goodIn_of _ (by decide +kernel)) ggL_law_X5_proof
set_option maxRecDepth 20000 in
theorem ggL_law_X6_proof : GoodIn wsL_law wsX6_proof := goodIn_r _ [622, 156, 591, 592, 593, 5, 594, 92, 595, 596, 597, 598, 94, 86, 93, 161, 162, 163, 164, 165, 166, 599, 600, 601, 602, 167, 168, 169, 170, 83, 84, 603, 604, 605, 606, 607, 608, 609, 610, 895, 896, 897, 898, 899, 900, 901, 902, 903, 904, 905, 906, 907, 908, 909, 910, 911, 912, 913] (by decide +kernel) (by decide +kernel)
set_option maxRecDepth 20000 in
theorem gL_law_X6_proof : GoodIn wsL_law (wsV RL 142 RX6 yX6_proof wsX6_proof) := goodIn_app (goodIn_of _ (by decide +kernel)) ggL_law_X6_proof
set_option maxRecDepth 20000 in
theorem ggL_law_X5_side : GoodIn wsL_law wsX5_side := goodIn_r _ [626, 29, 17, 627, 628, 629, 28, 630, 631, 632, 541, 542, 543, 544, 65, 545, 546, 547, 548, 66, 64, 67, 549, 550, 551, 552, 553, 487, 488, 16, 489, 41, 554, 491, 492, 493, 39, 40, 555, 556, 557, 558, 559, 125, 126, 127, 43, 560, 117, 118, 119, 561, 562, 563, 564, 565, 566, 567, 568, 569, 570, 354, 355, 356, 571, 572, 573, 574, 575, 576, 577, 578, 537, 538, 539, 540, 890, 891, 892, 893, 894, 930, 931, 932, 933, 914, 915, 916, 917, 918, 919, 920] (by decide +kernel) (by decide +kernel)
set_option maxRecDepth 20000 in
theorem gL_law_X5_side : GoodIn wsL_law (wsV RL 143 RX5 yX5_side wsX5_side) := goodIn_app (goodIn_of _ (by decide +kernel)) ggL_law_X5_side
set_option maxRecDepth 20000 in
theorem ggL_law_X6_side : GoodIn wsL_law wsX6_side := goodIn_r _ [636, 156, 94, 591, 592, 593, 5, 594, 92, 595, 596, 597, 598, 86, 93, 161, 162, 163, 164, 165, 166, 599, 600, 601, 602, 167, 168, 169, 170, 83, 84, 603, 604, 605, 606, 607, 608, 609, 610, 895, 896, 897, 898, 899, 900, 901, 902, 903, 904, 905, 906, 907, 908, 909, 910, 911, 912, 913] (by decide +kernel) (by decide +kernel)
set_option maxRecDepth 20000 in
theorem gL_law_X6_side : GoodIn wsL_law (wsV RL 147 RX6 yX6_side wsX6_side) := goodIn_app (goodIn_of _ (by decide +kernel)) ggL_law_X6_side
set_option maxRecDepth 20000 in
theorem ggL_law_L_costOf : GoodIn wsL_law wsL_costOf := goodIn_ca (goodIn_r _ [639, 102, 640, 641, 642, 2, 643, 107, 108, 29, 17, 644, 645, 646, 28, 647, 64, 583, 584, 585, 579, 580, 581, 582, 560, 117, 118, 16, 119, 39, 586, 121, 122, 123, 40, 559, 125, 126, 127, 43, 890, 891, 892, 893, 894, 930, 931, 932, 933, 914, 915, 916, 917, 918, 919, 920] (by decide +kernel) (by decide +kernel)) (goodIn_sub (fun _ h => List.mem_append_left _ (List.mem_append_left _ (List.mem_append_right _ h))) (by decide +kernel))
set_option maxRecDepth 20000 in
theorem gL_law_L_costOf : GoodIn wsL_law (va_wsS RL 150 yL_costOf wsL_costOf) := goodIn_app (goodIn_of _ (by decide +kernel)) ggL_law_L_costOf
set_option maxRecDepth 20000 in
theorem ggL_law_X6_costOf : GoodIn wsL_law wsX6_costOf := goodIn_r _ [651, 652, 86, 152, 153, 154, 5, 155, 156, 161, 162, 163, 164, 165, 166, 167, 168, 169, 170, 83, 84, 895, 896, 897, 898, 899, 900, 901, 902, 903, 904, 905, 906, 907, 908, 909, 910, 911, 912, 913] (by decide +kernel) (by decide +kernel)
set_option maxRecDepth 20000 in
theorem gL_law_X6_costOf : GoodIn wsL_law (wsV RL 153 RX6 yX6_costOf wsX6_costOf) := goodIn_app (goodIn_of _ (by decide +kernel)) ggL_law_X6_costOf
set_option maxRecDepth 20000 in
theorem ggL_law_L_pull : GoodIn wsL_law wsL_pull := goodIn_ca (goodIn_r _ [655, 178, 656, 657, 658, 2, 659, 33, 17, 218, 219, 220, 186, 187, 660, 661, 662, 663, 664, 665, 32, 666, 71, 667, 110, 111, 112, 113, 114, 115, 116, 117, 118, 16, 119, 39, 120, 121, 122, 123, 40, 124, 125, 126, 127, 43, 668, 141, 142, 143, 77, 890, 891, 892, 893, 894, 934, 935, 936, 937, 938, 939, 940, 914, 915, 916, 917, 918, 919, 920] (by decide +kernel) (by decide +kernel)) (goodIn_sub (fun _ h => List.mem_append_left _ (List.mem_append_right _ h)) (by decide +kernel))
set_option maxRecDepth 20000 in
theorem gL_law_L_pull : GoodIn wsL_law (va_wsS RL 154 yL_pull wsL_pull) := goodIn_app (goodIn_of _ (by decide +kernel)) ggL_law_L_pull
set_option maxRecDepth 20000 in
theorem ggL_law_X6_pull : GoodIn wsL_law wsX6_pull := goodIn_r _ [672, 87, 148, 242, 243, 5, 244, 149, 150, 151, 673, 674, 675, 152, 153, 154, 155, 156, 157, 158, 159, 160, 161, 162, 163, 164, 165, 166, 167, 168, 169, 170, 83, 84, 895, 896, 897, 898, 899, 900, 901, 902, 903, 904, 905, 906, 907, 908, 909, 910, 911, 912, 913] (by decide +kernel) (by decide +kernel)
set_option maxRecDepth 20000 in
theorem gL_law_X6_pull : GoodIn wsL_law (wsV RL 156 RX6 yX6_pull wsX6_pull) := goodIn_app (goodIn_of _ (by decide +kernel)) ggL_law_X6_pull
set_option maxRecDepth 20000 in
theorem ggL_law_L_hold : GoodIn wsL_law wsL_hold := goodIn_ca (goodIn_r _ [678, 178, 679, 680, 681, 2, 682, 33, 660, 661, 662, 186, 187, 683, 684, 685, 32, 686, 74, 890, 891, 892, 893, 894, 934, 935, 936, 937, 938, 939, 940] (by decide +kernel) (by decide +kernel)) (goodIn_sub (fun _ h => List.mem_append_left _ (List.mem_append_right _ h)) (by decide +kernel))
set_option maxRecDepth 20000 in
theorem gL_law_L_hold : GoodIn wsL_law (va_wsS RL 157 yL_hold wsL_hold) := goodIn_app (goodIn_of _ (by decide +kernel)) ggL_law_L_hold
set_option maxRecDepth 20000 in
theorem ggL_law_X6_hold : GoodIn wsL_law wsX6_hold := goodIn_r _ [690, 88, 673, 674, 5, 675, 149, 150, 151, 152, 153, 154, 155, 156, 895, 896, 897, 898, 899, 900, 901, 902, 903, 904, 905, 906, 907, 908, 909, 910, 911, 912, 913] (by decide +kernel) (by decide +kernel)
set_option maxRecDepth 20000 in
theorem gL_law_X6_hold : GoodIn wsL_law (wsV RL 160 RX6 yX6_hold wsX6_hold) := goodIn_app (goodIn_of _ (by decide +kernel)) ggL_law_X6_hold
set_option maxRecDepth 20000 in
theorem ggL_law_L_breathe : GoodIn wsL_law wsL_breathe := goodIn_ca (goodIn_r _ [693, 102, 694, 695, 696, 2, 697, 107, 108, 33, 17, 698, 699, 700, 32, 701, 71, 78, 667, 110, 111, 112, 113, 114, 115, 116, 117, 118, 16, 119, 39, 120, 121, 122, 123, 40, 124, 125, 126, 127, 43, 702, 703, 704, 705, 74, 706, 707, 708, 709, 710, 711, 712, 713, 487, 488, 489, 41, 714, 491, 492, 493, 890, 891, 892, 893, 894, 934, 935, 936, 937, 938, 939, 940, 914, 915, 916, 917, 918, 919, 920] (by decide +kernel) (by decide +kernel)) (goodIn_sub (fun _ h => List.mem_append_left _ (List.mem_append_left _ (List.mem_append_right _ h))) (by decide +kernel))
set_option maxRecDepth 20000 in
theorem gL_law_L_breathe : GoodIn wsL_law (va_wsS RL 161 yL_breathe wsL_breathe) := goodIn_app (goodIn_of _ (by decide +kernel)) ggL_law_L_breathe
set_option maxRecDepth 20000 in
theorem ggL_law_X6_breathe : GoodIn wsL_law wsX6_breathe := goodIn_r _ [718, 719, 149, 150, 5, 151, 152, 153, 154, 155, 156, 157, 158, 159, 160, 87, 161, 162, 163, 164, 165, 166, 167, 168, 169, 170, 83, 84, 720, 721, 722, 723, 724, 725, 726, 727, 88, 253, 728, 729, 730, 731, 732, 733, 734, 735, 895, 896, 897, 898, 899, 900, 901, 902, 903, 904, 905, 906, 907, 908, 909, 910, 911, 912, 913] (by decide +kernel) (by decide +kernel)
set_option maxRecDepth 20000 in
theorem gL_law_X6_breathe : GoodIn wsL_law (wsV RL 163 RX6 yX6_breathe wsX6_breathe) := goodIn_app (goodIn_of _ (by decide +kernel)) ggL_law_X6_breathe
set_option maxRecDepth 20000 in
theorem ggL_law_L_bubbleAt : GoodIn wsL_law wsL_bubbleAt := goodIn_ca (goodIn_r _ [738, 178, 739, 740, 741, 2, 742, 33, 218, 219, 220, 186, 187, 743, 744, 745, 32, 746, 71, 890, 891, 892, 893, 894, 934, 935, 936, 937, 938, 939, 940] (by decide +kernel) (by decide +kernel)) (goodIn_sub (fun _ h => List.mem_append_left _ (List.mem_append_right _ h)) (by decide +kernel))
set_option maxRecDepth 20000 in
theorem gL_law_L_bubbleAt : GoodIn wsL_law (va_wsS RL 164 yL_bubbleAt wsL_bubbleAt) := goodIn_app (goodIn_of _ (by decide +kernel)) ggL_law_L_bubbleAt
set_option maxRecDepth 20000 in
theorem ggL_law_X6_bubbleAt : GoodIn wsL_law wsX6_bubbleAt := goodIn_r _ [750, 87, 242, 243, 5, 244, 149, 150, 151, 152, 153, 154, 155, 156, 895, 896, 897, 898, 899, 900, 901, 902, 903, 904, 905, 906, 907, 908, 909, 910, 911, 912, 913] (by decide +kernel) (by decide +kernel)
set_option maxRecDepth 20000 in
theorem gL_law_X6_bubbleAt : GoodIn wsL_law (wsV RL 166 RX6 yX6_bubbleAt wsX6_bubbleAt) := goodIn_app (goodIn_of _ (by decide +kernel)) ggL_law_X6_bubbleAt
set_option maxRecDepth 20000 in
theorem ggL_law_L_bubble : GoodIn wsL_law wsL_bubble := goodIn_ca (goodIn_ca (goodIn_r _ [753, 178, 102, 754, 755, 756, 2, 757, 107, 108, 33, 17, 660, 661, 662, 186, 187, 758, 759, 760, 32, 761, 71, 762, 763, 764, 765, 75, 766, 767, 768, 769, 76, 713, 487, 488, 16, 489, 41, 714, 491, 492, 493, 39, 40, 770, 771, 772, 773, 774, 775, 776, 777, 778, 779, 780, 781, 116, 117, 118, 119, 120, 121, 122, 123, 124, 125, 126, 127, 43, 782, 783, 784, 785, 786, 342, 343, 344, 345, 346, 347, 787, 788, 789, 790, 74, 890, 891, 892, 893, 894, 934, 935, 936, 937, 938, 939, 940, 914, 915, 916, 917, 918, 919, 920] (by decide +kernel) (by decide +kernel)) (goodIn_sub (fun _ h => List.mem_append_left _ (List.mem_append_left _ (List.mem_append_right _ h))) (by decide +kernel))) (goodIn_sub (fun _ h => List.mem_append_left _ (List.mem_append_right _ h)) (by decide +kernel))
set_option maxRecDepth 20000 in
theorem gL_law_L_bubble : GoodIn wsL_law (va_wsS RL 167 yL_bubble wsL_bubble) := goodIn_app (goodIn_of _ (by decide +kernel)) ggL_law_L_bubble
set_option maxRecDepth 20000 in
theorem ggL_law_X6_bubble : GoodIn wsL_law wsX6_bubble := goodIn_r _ [794, 88, 673, 674, 5, 675, 149, 150, 151, 152, 153, 154, 155, 156, 795, 796, 797, 798, 87, 799, 800, 801, 802, 96, 161, 162, 163, 164, 165, 166, 803, 804, 805, 806, 807, 808, 809, 810, 167, 168, 169, 170, 83, 84, 895, 896, 897, 898, 899, 900, 901, 902, 903, 904, 905, 906, 907, 908, 909, 910, 911, 912, 913] (by decide +kernel) (by decide +kernel)
set_option maxRecDepth 20000 in
theorem gL_law_X6_bubble : GoodIn wsL_law (wsV RL 169 RX6 yX6_bubble wsX6_bubble) := goodIn_app (goodIn_of _ (by decide +kernel)) ggL_law_X6_bubble
set_option maxRecDepth 20000 in
theorem ggL_law_L_wall : GoodIn wsL_law wsL_wall := goodIn_ca (goodIn_r _ [813, 178, 814, 815, 816, 2, 817, 33, 17, 660, 661, 662, 186, 187, 818, 775, 776, 32, 777, 778, 779, 780, 781, 71, 116, 117, 118, 16, 119, 39, 120, 121, 122, 123, 40, 124, 125, 126, 127, 43, 890, 891, 892, 893, 894, 934, 935, 936, 937, 938, 939, 940, 914, 915, 916, 917, 918, 919, 920] (by decide +kernel) (by decide +kernel)) (goodIn_sub (fun _ h => List.mem_append_left _ (List.mem_append_right _ h)) (by decide +kernel))
set_option maxRecDepth 20000 in
theorem gL_law_L_wall : GoodIn wsL_law (va_wsS RL 170 yL_wall wsL_wall) := goodIn_app (goodIn_of _ (by decide +kernel)) ggL_law_L_wall
set_option maxRecDepth 20000 in
theorem ggL_law_X6_wall : GoodIn wsL_law wsX6_wall := goodIn_r _ [822, 673, 674, 5, 675, 149, 150, 151, 152, 153, 154, 155, 156, 807, 808, 809, 810, 87, 161, 162, 163, 164, 165, 166, 167, 168, 169, 170, 83, 84, 895, 896, 897, 898, 899, 900, 901, 902, 903, 904, 905, 906, 907, 908, 909, 910, 911, 912, 913] (by decide +kernel) (by decide +kernel)
set_option maxRecDepth 20000 in
theorem gL_law_X6_wall : GoodIn wsL_law (wsV RL 172 RX6 yX6_wall wsX6_wall) := goodIn_app (goodIn_of _ (by decide +kernel)) ggL_law_X6_wall
set_option maxRecDepth 20000 in
theorem ggL_law_L_corners : GoodIn wsL_law wsL_corners := goodIn_ca (goodIn_r _ [825, 102, 826, 827, 828, 2, 829, 107, 108, 33, 830, 831, 832, 32, 833, 834, 835, 836, 837, 71, 786, 342, 343, 344, 345, 346, 347, 890, 891, 892, 893, 894, 934, 935, 936, 937, 938, 939, 940] (by decide +kernel) (by decide +kernel)) (goodIn_sub (fun _ h => List.mem_append_left _ (List.mem_append_left _ (List.mem_append_right _ h))) (by decide +kernel))
set_option maxRecDepth 20000 in
theorem gL_law_L_corners : GoodIn wsL_law (va_wsS RL 173 yL_corners wsL_corners) := goodIn_app (goodIn_of _ (by decide +kernel)) ggL_law_L_corners
set_option maxRecDepth 20000 in
theorem ggL_law_X6_corners : GoodIn wsL_law wsX6_corners := goodIn_r _ [841, 149, 150, 5, 151, 152, 153, 154, 155, 156, 842, 843, 844, 845, 87, 895, 896, 897, 898, 899, 900, 901, 902, 903, 904, 905, 906, 907, 908, 909, 910, 911, 912, 913] (by decide +kernel) (by decide +kernel)
set_option maxRecDepth 20000 in
theorem gL_law_X6_corners : GoodIn wsL_law (wsV RL 175 RX6 yX6_corners wsX6_corners) := goodIn_app (goodIn_of _ (by decide +kernel)) ggL_law_X6_corners
set_option maxRecDepth 20000 in
theorem ggL_law_X5_rests : GoodIn wsL_law wsX5_rests := goodIn_r _ [849, 33, 17, 850, 851, 852, 32, 853, 71, 72, 854, 855, 856, 857, 702, 703, 704, 705, 74, 706, 707, 708, 709, 710, 711, 712, 713, 487, 488, 16, 489, 41, 714, 491, 492, 493, 39, 40, 124, 125, 126, 127, 43, 890, 891, 892, 893, 894, 934, 935, 936, 937, 938, 939, 940, 914, 915, 916, 917, 918, 919, 920] (by decide +kernel) (by decide +kernel)
set_option maxRecDepth 20000 in
theorem gL_law_X5_rests : GoodIn wsL_law (wsV RL 176 RX5 yX5_rests wsX5_rests) := goodIn_app (goodIn_of _ (by decide +kernel)) ggL_law_X5_rests
set_option maxRecDepth 20000 in
theorem ggL_law_X6_rests : GoodIn wsL_law wsX6_rests := goodIn_r _ [861, 156, 862, 863, 864, 5, 865, 95, 87, 720, 721, 722, 723, 724, 725, 726, 727, 88, 253, 728, 729, 730, 731, 161, 162, 163, 164, 165, 166, 167, 168, 169, 170, 83, 84, 732, 733, 734, 735, 157, 158, 159, 160, 895, 896, 897, 898, 899, 900, 901, 902, 903, 904, 905, 906, 907, 908, 909, 910, 911, 912, 913] (by decide +kernel) (by decide +kernel)
set_option maxRecDepth 20000 in
theorem gL_law_X6_rests : GoodIn wsL_law (wsV RL 179 RX6 yX6_rests wsX6_rests) := goodIn_app (goodIn_of _ (by decide +kernel)) ggL_law_X6_rests
set_option maxRecDepth 20000 in
theorem ggL_law_L_energy : GoodIn wsL_law wsL_energy := goodIn_ca (goodIn_r _ [868, 102, 869, 870, 871, 2, 872, 107, 108, 33, 17, 109, 110, 111, 32, 112, 71, 113, 114, 115, 116, 117, 118, 16, 119, 39, 120, 121, 122, 123, 40, 124, 125, 126, 127, 43, 873, 874, 875, 876, 72, 877, 851, 852, 853, 854, 855, 856, 857, 702, 703, 704, 705, 74, 706, 707, 708, 709, 710, 711, 712, 713, 487, 488, 489, 41, 714, 491, 492, 493, 878, 879, 880, 881, 77, 882, 883, 884, 885, 78, 890, 891, 892, 893, 894, 934, 935, 936, 937, 938, 939, 940, 914, 915, 916, 917, 918, 919, 920] (by decide +kernel) (by decide +kernel)) (goodIn_sub (fun _ h => List.mem_append_left _ (List.mem_append_left _ (List.mem_append_right _ h))) (by decide +kernel))
set_option maxRecDepth 20000 in
theorem gL_law_L_energy : GoodIn wsL_law (va_wsS RL 180 yL_energy wsL_energy) := goodIn_app (goodIn_of _ (by decide +kernel)) ggL_law_L_energy
set_option maxRecDepth 20000 in
theorem ggL_law_X6_energy : GoodIn wsL_law wsX6_energy := goodIn_r _ [889, 148, 719, 149, 150, 5, 151, 152, 153, 154, 155, 156, 157, 158, 159, 160, 87, 161, 162, 163, 164, 165, 166, 167, 168, 169, 170, 83, 84, 862, 863, 864, 865, 95, 720, 721, 722, 723, 724, 725, 726, 727, 88, 253, 728, 729, 730, 731, 732, 733, 734, 735, 895, 896, 897, 898, 899, 900, 901, 902, 903, 904, 905, 906, 907, 908, 909, 910, 911, 912, 913] (by decide +kernel) (by decide +kernel)
set_option maxRecDepth 20000 in
theorem gL_law_X6_energy : GoodIn wsL_law (wsV RL 182 RX6 yX6_energy wsX6_energy) := goodIn_app (goodIn_of _ (by decide +kernel)) ggL_law_X6_energy
