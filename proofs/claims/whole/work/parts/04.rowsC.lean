theorem dX0_init_0 : decode cX0_init 0 = .ok (.aload_n 0, 1) := by decide +kernel
theorem dX0_init_1 : decode cX0_init 1 = .ok (.invokespecial 3, 3) := by decide +kernel
theorem dX0_init_4 : decode cX0_init 4 = .ok (.aload_n 0, 1) := by decide +kernel
theorem dX0_init_5 : decode cX0_init 5 = .ok (.bipush 36, 2) := by decide +kernel
theorem dX0_init_7 : decode cX0_init 7 = .ok (.newarray .int, 2) := by decide +kernel
theorem dX0_init_9 : decode cX0_init 9 = .ok (.putfield 9, 3) := by decide +kernel
theorem dX0_init_12 : decode cX0_init 12 = .ok (.aload_n 0, 1) := by decide +kernel
theorem dX0_init_13 : decode cX0_init 13 = .ok (.bipush 60, 2) := by decide +kernel
theorem dX0_init_15 : decode cX0_init 15 = .ok (.newarray .int, 2) := by decide +kernel
theorem dX0_init_17 : decode cX0_init 17 = .ok (.putfield 15, 3) := by decide +kernel
theorem dX0_init_20 : decode cX0_init 20 = .ok (.aload_n 0, 1) := by decide +kernel
theorem dX0_init_21 : decode cX0_init 21 = .ok (.bipush 36, 2) := by decide +kernel
theorem dX0_init_23 : decode cX0_init 23 = .ok (.newarray .int, 2) := by decide +kernel
theorem dX0_init_25 : decode cX0_init 25 = .ok (.putfield 18, 3) := by decide +kernel
theorem dX0_init_28 : decode cX0_init 28 = .ok (.aload_n 0, 1) := by decide +kernel
theorem dX0_init_29 : decode cX0_init 29 = .ok (.bipush 36, 2) := by decide +kernel
theorem dX0_init_31 : decode cX0_init 31 = .ok (.newarray .int, 2) := by decide +kernel
theorem dX0_init_33 : decode cX0_init 33 = .ok (.putfield 21, 3) := by decide +kernel
theorem dX0_init_36 : decode cX0_init 36 = .ok (.return_, 1) := by decide +kernel
theorem dX0_change_0 : decode cX0_change 0 = .ok (.aload_n 0, 1) := by decide +kernel
theorem dX0_change_1 : decode cX0_change 1 = .ok (.getfield 9, 3) := by decide +kernel
theorem dX0_change_4 : decode cX0_change 4 = .ok (.iload_n 1, 1) := by decide +kernel
theorem dX0_change_5 : decode cX0_change 5 = .ok (.iaload, 1) := by decide +kernel
theorem dX0_change_6 : decode cX0_change 6 = .ok (.istore_n 3, 1) := by decide +kernel
theorem dX0_change_7 : decode cX0_change 7 = .ok (.aload_n 0, 1) := by decide +kernel
theorem dX0_change_8 : decode cX0_change 8 = .ok (.getfield 9, 3) := by decide +kernel
theorem dX0_change_11 : decode cX0_change 11 = .ok (.iload_n 1, 1) := by decide +kernel
theorem dX0_change_12 : decode cX0_change 12 = .ok (.iload_n 2, 1) := by decide +kernel
theorem dX0_change_13 : decode cX0_change 13 = .ok (.iastore, 1) := by decide +kernel
theorem dX0_change_14 : decode cX0_change 14 = .ok (.iload_n 3, 1) := by decide +kernel
theorem dX0_change_15 : decode cX0_change 15 = .ok (.ireturn, 1) := by decide +kernel
set_option maxRecDepth 20000 in
theorem ggX0_isFilm_X0_has : GoodIn wsX0_isFilm wsX0_has := goodIn_r _ [5] (by decide +kernel) (by decide +kernel)
set_option maxRecDepth 20000 in
theorem gX0_isFilm_X0_has : GoodIn wsX0_isFilm (va_wsS RX0 24 yX0_has wsX0_has) := goodIn_app (goodIn_of _ (by decide +kernel)) ggX0_isFilm_X0_has
theorem dX0_isFilm_0 : decode cX0_isFilm 0 = .ok (.iconst 0, 1) := by decide +kernel
theorem dX0_isFilm_1 : decode cX0_isFilm 1 = .ok (.istore_n 3, 1) := by decide +kernel
theorem dX0_isFilm_2 : decode cX0_isFilm 2 = .ok (.iload_n 3, 1) := by decide +kernel
theorem dX0_isFilm_3 : decode cX0_isFilm 3 = .ok (.bipush 36, 2) := by decide +kernel
theorem dX0_isFilm_5 : decode cX0_isFilm 5 = .ok (.if_icmp .ge 33, 3) := by decide +kernel
theorem dX0_isFilm_8 : decode cX0_isFilm 8 = .ok (.aload_n 0, 1) := by decide +kernel
theorem dX0_isFilm_9 : decode cX0_isFilm 9 = .ok (.getfield 9, 3) := by decide +kernel
theorem dX0_isFilm_12 : decode cX0_isFilm 12 = .ok (.iload_n 3, 1) := by decide +kernel
theorem dX0_isFilm_13 : decode cX0_isFilm 13 = .ok (.iaload, 1) := by decide +kernel
theorem dX0_isFilm_14 : decode cX0_isFilm 14 = .ok (.lload_n 1, 1) := by decide +kernel
theorem dX0_isFilm_15 : decode cX0_isFilm 15 = .ok (.iload_n 3, 1) := by decide +kernel
theorem dX0_isFilm_16 : decode cX0_isFilm 16 = .ok (.invokestatic 24, 3) := by decide +kernel
theorem dX0_isFilm_19 : decode cX0_isFilm 19 = .ok (.ifCond .eq 7, 3) := by decide +kernel
theorem dX0_isFilm_22 : decode cX0_isFilm 22 = .ok (.iconst 2, 1) := by decide +kernel
theorem dX0_isFilm_23 : decode cX0_isFilm 23 = .ok (.goto 4, 3) := by decide +kernel
theorem dX0_isFilm_26 : decode cX0_isFilm 26 = .ok (.iconst 1, 1) := by decide +kernel
theorem dX0_isFilm_27 : decode cX0_isFilm 27 = .ok (.if_icmp .ne 5, 3) := by decide +kernel
theorem dX0_isFilm_30 : decode cX0_isFilm 30 = .ok (.iconst 0, 1) := by decide +kernel
theorem dX0_isFilm_31 : decode cX0_isFilm 31 = .ok (.ireturn, 1) := by decide +kernel
theorem dX0_isFilm_32 : decode cX0_isFilm 32 = .ok (.iinc 3 1, 3) := by decide +kernel
theorem dX0_isFilm_35 : decode cX0_isFilm 35 = .ok (.goto (-33), 3) := by decide +kernel
theorem dX0_isFilm_38 : decode cX0_isFilm 38 = .ok (.iconst 1, 1) := by decide +kernel
theorem dX0_isFilm_39 : decode cX0_isFilm 39 = .ok (.ireturn, 1) := by decide +kernel
set_option maxRecDepth 20000 in
theorem ggX0_priceOf_X2_low : GoodIn wsX0_priceOf wsX2_low := goodIn_r _ [5, 6, 21, 22, 23, 24, 25, 26, 27] (by decide +kernel) (by decide +kernel)
set_option maxRecDepth 20000 in
theorem gX0_priceOf_X2_low : GoodIn wsX0_priceOf (wsV RX0 28 RX2 yX2_low wsX2_low) := goodIn_app (goodIn_of _ (by decide +kernel)) ggX0_priceOf_X2_low
set_option maxRecDepth 20000 in
theorem ggX0_priceOf_X0_has : GoodIn wsX0_priceOf wsX0_has := goodIn_r _ [10] (by decide +kernel) (by decide +kernel)
set_option maxRecDepth 20000 in
theorem gX0_priceOf_X0_has : GoodIn wsX0_priceOf (va_wsS RX0 24 yX0_has wsX0_has) := goodIn_app (goodIn_of _ (by decide +kernel)) ggX0_priceOf_X0_has
set_option maxRecDepth 20000 in
theorem ggX0_priceOf_X2_high : GoodIn wsX0_priceOf wsX2_high := goodIn_r _ [14, 15, 21, 22, 23, 24, 25, 26, 27] (by decide +kernel) (by decide +kernel)
set_option maxRecDepth 20000 in
theorem gX0_priceOf_X2_high : GoodIn wsX0_priceOf (wsV RX0 34 RX2 yX2_high wsX2_high) := goodIn_app (goodIn_of _ (by decide +kernel)) ggX0_priceOf_X2_high
set_option maxRecDepth 20000 in
theorem ggX0_priceOf_X2_price : GoodIn wsX0_priceOf wsX2_price := goodIn_r _ [19, 20, 21, 22, 23, 24, 25, 26, 27] (by decide +kernel) (by decide +kernel)
set_option maxRecDepth 20000 in
theorem gX0_priceOf_X2_price : GoodIn wsX0_priceOf (wsV RX0 37 RX2 yX2_price wsX2_price) := goodIn_app (goodIn_of _ (by decide +kernel)) ggX0_priceOf_X2_price
theorem dX0_priceOf_0 : decode cX0_priceOf 0 = .ok (.iconst 0, 1) := by decide +kernel
theorem dX0_priceOf_1 : decode cX0_priceOf 1 = .ok (.istore 4, 2) := by decide +kernel
theorem dX0_priceOf_3 : decode cX0_priceOf 3 = .ok (.iconst 0, 1) := by decide +kernel
theorem dX0_priceOf_4 : decode cX0_priceOf 4 = .ok (.istore 5, 2) := by decide +kernel
theorem dX0_priceOf_6 : decode cX0_priceOf 6 = .ok (.iload 5, 2) := by decide +kernel
theorem dX0_priceOf_8 : decode cX0_priceOf 8 = .ok (.bipush 60, 2) := by decide +kernel
theorem dX0_priceOf_10 : decode cX0_priceOf 10 = .ok (.if_icmp .ge 43, 3) := by decide +kernel
theorem dX0_priceOf_13 : decode cX0_priceOf 13 = .ok (.lload_n 2, 1) := by decide +kernel
theorem dX0_priceOf_14 : decode cX0_priceOf 14 = .ok (.aload_n 1, 1) := by decide +kernel
theorem dX0_priceOf_15 : decode cX0_priceOf 15 = .ok (.iload 5, 2) := by decide +kernel
theorem dX0_priceOf_17 : decode cX0_priceOf 17 = .ok (.invokevirtual 28, 3) := by decide +kernel
theorem dX0_priceOf_20 : decode cX0_priceOf 20 = .ok (.invokestatic 24, 3) := by decide +kernel
theorem dX0_priceOf_23 : decode cX0_priceOf 23 = .ok (.lload_n 2, 1) := by decide +kernel
theorem dX0_priceOf_24 : decode cX0_priceOf 24 = .ok (.aload_n 1, 1) := by decide +kernel
theorem dX0_priceOf_25 : decode cX0_priceOf 25 = .ok (.iload 5, 2) := by decide +kernel
theorem dX0_priceOf_27 : decode cX0_priceOf 27 = .ok (.invokevirtual 34, 3) := by decide +kernel
theorem dX0_priceOf_30 : decode cX0_priceOf 30 = .ok (.invokestatic 24, 3) := by decide +kernel
theorem dX0_priceOf_33 : decode cX0_priceOf 33 = .ok (.if_icmp .eq 14, 3) := by decide +kernel
theorem dX0_priceOf_36 : decode cX0_priceOf 36 = .ok (.iload 4, 2) := by decide +kernel
theorem dX0_priceOf_38 : decode cX0_priceOf 38 = .ok (.aload_n 1, 1) := by decide +kernel
theorem dX0_priceOf_39 : decode cX0_priceOf 39 = .ok (.iload 5, 2) := by decide +kernel
theorem dX0_priceOf_41 : decode cX0_priceOf 41 = .ok (.invokevirtual 37, 3) := by decide +kernel
theorem dX0_priceOf_44 : decode cX0_priceOf 44 = .ok (.iadd, 1) := by decide +kernel
theorem dX0_priceOf_45 : decode cX0_priceOf 45 = .ok (.istore 4, 2) := by decide +kernel
theorem dX0_priceOf_47 : decode cX0_priceOf 47 = .ok (.iinc 5 1, 3) := by decide +kernel
theorem dX0_priceOf_50 : decode cX0_priceOf 50 = .ok (.goto (-44), 3) := by decide +kernel
theorem dX0_priceOf_53 : decode cX0_priceOf 53 = .ok (.iload 4, 2) := by decide +kernel
theorem dX0_priceOf_55 : decode cX0_priceOf 55 = .ok (.ireturn, 1) := by decide +kernel
set_option maxRecDepth 20000 in
theorem ggX0_smallest_X0_fillField : GoodIn wsX0_smallest wsX0_fillField := goodIn_r _ [5, 6, 7, 8, 9, 4, 10, 11, 12, 13, 14, 15, 16, 17, 18, 19, 20, 21, 22, 23, 24, 25, 26, 27, 28, 29, 30, 31, 32, 33, 34, 35, 36, 37, 38, 39, 40, 41, 42, 43, 44, 45, 46, 47, 48, 49, 50, 51, 52, 53, 54, 55, 56, 57, 58, 59, 64, 65, 66, 67, 68, 69, 70, 71, 72, 73, 74] (by decide +kernel) (by decide +kernel)
set_option maxRecDepth 20000 in
theorem gX0_smallest_X0_fillField : GoodIn wsX0_smallest (wsV RX0 40 RX0 yX0_fillField wsX0_fillField) := goodIn_app (goodIn_of _ (by decide +kernel)) ggX0_smallest_X0_fillField
set_option maxRecDepth 20000 in
theorem ggX0_smallest_X0_search : GoodIn wsX0_smallest wsX0_search := goodIn_r _ [10, 11, 12, 13, 14, 15, 16, 4, 17, 18, 19, 20, 21, 22, 23, 24, 25, 26, 27, 28, 29, 30, 31, 32, 33, 6, 34, 35, 36, 37, 38, 39, 40, 41, 42, 64, 65, 66, 67, 68, 69, 70, 71, 72, 73, 74] (by decide +kernel) (by decide +kernel)
set_option maxRecDepth 20000 in
theorem gX0_smallest_X0_search : GoodIn wsX0_smallest (wsV RX0 44 RX0 yX0_search wsX0_search) := goodIn_app (goodIn_of _ (by decide +kernel)) ggX0_smallest_X0_search
set_option maxRecDepth 20000 in
theorem ggX0_smallest_X0_reached : GoodIn wsX0_smallest wsX0_reached := goodIn_r _ [63, 11, 64, 65, 66, 67] (by decide +kernel) (by decide +kernel)
set_option maxRecDepth 20000 in
theorem gX0_smallest_X0_reached : GoodIn wsX0_smallest (wsV RX0 48 RX0 yX0_reached wsX0_reached) := goodIn_app (goodIn_of _ (by decide +kernel)) ggX0_smallest_X0_reached
theorem dX0_smallest_0 : decode cX0_smallest 0 = .ok (.aload_n 0, 1) := by decide +kernel
theorem dX0_smallest_1 : decode cX0_smallest 1 = .ok (.aload_n 1, 1) := by decide +kernel
theorem dX0_smallest_2 : decode cX0_smallest 2 = .ok (.invokevirtual 40, 3) := by decide +kernel
theorem dX0_smallest_5 : decode cX0_smallest 5 = .ok (.aload_n 0, 1) := by decide +kernel
theorem dX0_smallest_6 : decode cX0_smallest 6 = .ok (.aload_n 1, 1) := by decide +kernel
theorem dX0_smallest_7 : decode cX0_smallest 7 = .ok (.iconst 1, 1) := by decide +kernel
theorem dX0_smallest_8 : decode cX0_smallest 8 = .ok (.invokevirtual 44, 3) := by decide +kernel
theorem dX0_smallest_11 : decode cX0_smallest 11 = .ok (.pop, 1) := by decide +kernel
theorem dX0_smallest_12 : decode cX0_smallest 12 = .ok (.aload_n 0, 1) := by decide +kernel
theorem dX0_smallest_13 : decode cX0_smallest 13 = .ok (.invokevirtual 48, 3) := by decide +kernel
theorem dX0_smallest_16 : decode cX0_smallest 16 = .ok (.lreturn, 1) := by decide +kernel
set_option maxRecDepth 20000 in
theorem ggX0_greatest_X0_fillField : GoodIn wsX0_greatest wsX0_fillField := goodIn_r _ [7, 8, 9, 10, 11, 6, 12, 13, 14, 15, 16, 17, 18, 19, 20, 21, 22, 23, 24, 25, 26, 27, 28, 29, 30, 31, 32, 33, 34, 35, 36, 37, 38, 39, 40, 41, 42, 43, 44, 45, 46, 47, 48, 49, 50, 51, 52, 53, 54, 55, 56, 57, 58, 59, 60, 61, 66, 67, 68, 69, 70, 71, 72, 73, 74, 75, 76] (by decide +kernel) (by decide +kernel)
set_option maxRecDepth 20000 in
theorem gX0_greatest_X0_fillField : GoodIn wsX0_greatest (wsV RX0 40 RX0 yX0_fillField wsX0_fillField) := goodIn_app (goodIn_of _ (by decide +kernel)) ggX0_greatest_X0_fillField
set_option maxRecDepth 20000 in
theorem ggX0_greatest_X0_search : GoodIn wsX0_greatest wsX0_search := goodIn_r _ [12, 13, 14, 15, 16, 17, 18, 6, 19, 20, 21, 22, 23, 24, 25, 26, 27, 28, 29, 30, 31, 32, 33, 34, 35, 8, 36, 37, 38, 39, 40, 41, 42, 43, 44, 66, 67, 68, 69, 70, 71, 72, 73, 74, 75, 76] (by decide +kernel) (by decide +kernel)
set_option maxRecDepth 20000 in
theorem gX0_greatest_X0_search : GoodIn wsX0_greatest (wsV RX0 44 RX0 yX0_search wsX0_search) := goodIn_app (goodIn_of _ (by decide +kernel)) ggX0_greatest_X0_search
set_option maxRecDepth 20000 in
theorem ggX0_greatest_X0_reached : GoodIn wsX0_greatest wsX0_reached := goodIn_r _ [65, 13, 66, 67, 68, 69] (by decide +kernel) (by decide +kernel)
set_option maxRecDepth 20000 in
theorem gX0_greatest_X0_reached : GoodIn wsX0_greatest (wsV RX0 48 RX0 yX0_reached wsX0_reached) := goodIn_app (goodIn_of _ (by decide +kernel)) ggX0_greatest_X0_reached
theorem dX0_greatest_0 : decode cX0_greatest 0 = .ok (.aload_n 0, 1) := by decide +kernel
theorem dX0_greatest_1 : decode cX0_greatest 1 = .ok (.aload_n 1, 1) := by decide +kernel
theorem dX0_greatest_2 : decode cX0_greatest 2 = .ok (.invokevirtual 40, 3) := by decide +kernel
theorem dX0_greatest_5 : decode cX0_greatest 5 = .ok (.aload_n 0, 1) := by decide +kernel
theorem dX0_greatest_6 : decode cX0_greatest 6 = .ok (.aload_n 1, 1) := by decide +kernel
theorem dX0_greatest_7 : decode cX0_greatest 7 = .ok (.iconst 2, 1) := by decide +kernel
theorem dX0_greatest_8 : decode cX0_greatest 8 = .ok (.invokevirtual 44, 3) := by decide +kernel
theorem dX0_greatest_11 : decode cX0_greatest 11 = .ok (.pop, 1) := by decide +kernel
theorem dX0_greatest_12 : decode cX0_greatest 12 = .ok (.ldc2_w 52, 3) := by decide +kernel
theorem dX0_greatest_15 : decode cX0_greatest 15 = .ok (.aload_n 0, 1) := by decide +kernel
theorem dX0_greatest_16 : decode cX0_greatest 16 = .ok (.invokevirtual 48, 3) := by decide +kernel
theorem dX0_greatest_19 : decode cX0_greatest 19 = .ok (.ldc2_w 54, 3) := by decide +kernel
theorem dX0_greatest_22 : decode cX0_greatest 22 = .ok (.lxor, 1) := by decide +kernel
theorem dX0_greatest_23 : decode cX0_greatest 23 = .ok (.land, 1) := by decide +kernel
theorem dX0_greatest_24 : decode cX0_greatest 24 = .ok (.lreturn, 1) := by decide +kernel
set_option maxRecDepth 20000 in
theorem ggX0_proved_X0_fillField : GoodIn wsX0_proved wsX0_fillField := goodIn_r _ [7, 2, 8, 9, 10, 6, 11, 12, 1, 13, 14, 15, 16, 17, 18, 19, 20, 21, 22, 23, 24, 25, 26, 27, 28, 29, 30, 31, 32, 33, 34, 35, 36, 37, 38, 39, 40, 41, 42, 43, 44, 45, 46, 47, 48, 49, 50, 51, 52, 53, 54, 55, 56, 57, 58, 59, 64, 65, 66, 67, 68, 69, 70, 71, 72, 73, 74] (by decide +kernel) (by decide +kernel)
set_option maxRecDepth 20000 in
theorem gX0_proved_X0_fillField : GoodIn wsX0_proved (wsV RX0 40 RX0 yX0_fillField wsX0_fillField) := goodIn_app (goodIn_of _ (by decide +kernel)) ggX0_proved_X0_fillField
set_option maxRecDepth 20000 in
theorem ggX0_proved_X2_low : GoodIn wsX0_proved wsX2_low := goodIn_r _ [42, 28, 68, 69, 70, 71, 72, 73, 74] (by decide +kernel) (by decide +kernel)
set_option maxRecDepth 20000 in
theorem gX0_proved_X2_low : GoodIn wsX0_proved (wsV RX0 28 RX2 yX2_low wsX2_low) := goodIn_app (goodIn_of _ (by decide +kernel)) ggX0_proved_X2_low
set_option maxRecDepth 20000 in
theorem ggX0_proved_X2_high : GoodIn wsX0_proved wsX2_high := goodIn_r _ [63, 29, 68, 69, 70, 71, 72, 73, 74] (by decide +kernel) (by decide +kernel)
set_option maxRecDepth 20000 in
theorem gX0_proved_X2_high : GoodIn wsX0_proved (wsV RX0 34 RX2 yX2_high wsX2_high) := goodIn_app (goodIn_of _ (by decide +kernel)) ggX0_proved_X2_high
theorem dX0_proved_0 : decode cX0_proved 0 = .ok (.aload_n 0, 1) := by decide +kernel
theorem dX0_proved_1 : decode cX0_proved 1 = .ok (.aload_n 1, 1) := by decide +kernel
theorem dX0_proved_2 : decode cX0_proved 2 = .ok (.invokevirtual 40, 3) := by decide +kernel
theorem dX0_proved_5 : decode cX0_proved 5 = .ok (.iconst 0, 1) := by decide +kernel
theorem dX0_proved_6 : decode cX0_proved 6 = .ok (.istore_n 2, 1) := by decide +kernel
theorem dX0_proved_7 : decode cX0_proved 7 = .ok (.iconst 0, 1) := by decide +kernel
theorem dX0_proved_8 : decode cX0_proved 8 = .ok (.istore_n 3, 1) := by decide +kernel
theorem dX0_proved_9 : decode cX0_proved 9 = .ok (.iload_n 3, 1) := by decide +kernel
theorem dX0_proved_10 : decode cX0_proved 10 = .ok (.bipush 60, 2) := by decide +kernel
theorem dX0_proved_12 : decode cX0_proved 12 = .ok (.if_icmp .ge 55, 3) := by decide +kernel
theorem dX0_proved_15 : decode cX0_proved 15 = .ok (.aload_n 0, 1) := by decide +kernel
theorem dX0_proved_16 : decode cX0_proved 16 = .ok (.getfield 9, 3) := by decide +kernel
theorem dX0_proved_19 : decode cX0_proved 19 = .ok (.aload_n 1, 1) := by decide +kernel
theorem dX0_proved_20 : decode cX0_proved 20 = .ok (.iload_n 3, 1) := by decide +kernel
theorem dX0_proved_21 : decode cX0_proved 21 = .ok (.invokevirtual 28, 3) := by decide +kernel
theorem dX0_proved_24 : decode cX0_proved 24 = .ok (.iaload, 1) := by decide +kernel
theorem dX0_proved_25 : decode cX0_proved 25 = .ok (.iconst 1, 1) := by decide +kernel
theorem dX0_proved_26 : decode cX0_proved 26 = .ok (.if_icmp .ne 12, 3) := by decide +kernel
theorem dX0_proved_29 : decode cX0_proved 29 = .ok (.iload_n 2, 1) := by decide +kernel
theorem dX0_proved_30 : decode cX0_proved 30 = .ok (.aload_n 0, 1) := by decide +kernel
theorem dX0_proved_31 : decode cX0_proved 31 = .ok (.getfield 15, 3) := by decide +kernel
theorem dX0_proved_34 : decode cX0_proved 34 = .ok (.iload_n 3, 1) := by decide +kernel
theorem dX0_proved_35 : decode cX0_proved 35 = .ok (.iaload, 1) := by decide +kernel
theorem dX0_proved_36 : decode cX0_proved 36 = .ok (.iadd, 1) := by decide +kernel
theorem dX0_proved_37 : decode cX0_proved 37 = .ok (.istore_n 2, 1) := by decide +kernel
theorem dX0_proved_38 : decode cX0_proved 38 = .ok (.aload_n 0, 1) := by decide +kernel
theorem dX0_proved_39 : decode cX0_proved 39 = .ok (.getfield 9, 3) := by decide +kernel
theorem dX0_proved_42 : decode cX0_proved 42 = .ok (.aload_n 1, 1) := by decide +kernel
theorem dX0_proved_43 : decode cX0_proved 43 = .ok (.iload_n 3, 1) := by decide +kernel
theorem dX0_proved_44 : decode cX0_proved 44 = .ok (.invokevirtual 34, 3) := by decide +kernel
theorem dX0_proved_47 : decode cX0_proved 47 = .ok (.iaload, 1) := by decide +kernel
theorem dX0_proved_48 : decode cX0_proved 48 = .ok (.iconst 1, 1) := by decide +kernel
theorem dX0_proved_49 : decode cX0_proved 49 = .ok (.if_icmp .ne 12, 3) := by decide +kernel
theorem dX0_proved_52 : decode cX0_proved 52 = .ok (.iload_n 2, 1) := by decide +kernel
theorem dX0_proved_53 : decode cX0_proved 53 = .ok (.aload_n 0, 1) := by decide +kernel
theorem dX0_proved_54 : decode cX0_proved 54 = .ok (.getfield 15, 3) := by decide +kernel
theorem dX0_proved_57 : decode cX0_proved 57 = .ok (.iload_n 3, 1) := by decide +kernel
theorem dX0_proved_58 : decode cX0_proved 58 = .ok (.iaload, 1) := by decide +kernel
theorem dX0_proved_59 : decode cX0_proved 59 = .ok (.isub, 1) := by decide +kernel
theorem dX0_proved_60 : decode cX0_proved 60 = .ok (.istore_n 2, 1) := by decide +kernel
theorem dX0_proved_61 : decode cX0_proved 61 = .ok (.iinc 3 1, 3) := by decide +kernel
theorem dX0_proved_64 : decode cX0_proved 64 = .ok (.goto (-55), 3) := by decide +kernel
theorem dX0_proved_67 : decode cX0_proved 67 = .ok (.iload_n 2, 1) := by decide +kernel
theorem dX0_proved_68 : decode cX0_proved 68 = .ok (.ireturn, 1) := by decide +kernel
theorem dX0_has_0 : decode cX0_has 0 = .ok (.lload_n 0, 1) := by decide +kernel
theorem dX0_has_1 : decode cX0_has 1 = .ok (.iload_n 2, 1) := by decide +kernel
theorem dX0_has_2 : decode cX0_has 2 = .ok (.lushr, 1) := by decide +kernel
theorem dX0_has_3 : decode cX0_has 3 = .ok (.lconst 1, 1) := by decide +kernel
theorem dX0_has_4 : decode cX0_has 4 = .ok (.land, 1) := by decide +kernel
theorem dX0_has_5 : decode cX0_has 5 = .ok (.lconst 0, 1) := by decide +kernel
theorem dX0_has_6 : decode cX0_has 6 = .ok (.lcmp, 1) := by decide +kernel
theorem dX0_has_7 : decode cX0_has 7 = .ok (.ifCond .eq 7, 3) := by decide +kernel
theorem dX0_has_10 : decode cX0_has 10 = .ok (.iconst 1, 1) := by decide +kernel
theorem dX0_has_11 : decode cX0_has 11 = .ok (.goto 4, 3) := by decide +kernel
theorem dX0_has_14 : decode cX0_has 14 = .ok (.iconst 0, 1) := by decide +kernel
theorem dX0_has_15 : decode cX0_has 15 = .ok (.ireturn, 1) := by decide +kernel
theorem dX0_reached_0 : decode cX0_reached 0 = .ok (.lconst 0, 1) := by decide +kernel
theorem dX0_reached_1 : decode cX0_reached 1 = .ok (.lstore_n 1, 1) := by decide +kernel
theorem dX0_reached_2 : decode cX0_reached 2 = .ok (.iconst 0, 1) := by decide +kernel
theorem dX0_reached_3 : decode cX0_reached 3 = .ok (.istore_n 3, 1) := by decide +kernel
theorem dX0_reached_4 : decode cX0_reached 4 = .ok (.iload_n 3, 1) := by decide +kernel
theorem dX0_reached_5 : decode cX0_reached 5 = .ok (.bipush 36, 2) := by decide +kernel
theorem dX0_reached_7 : decode cX0_reached 7 = .ok (.if_icmp .ge 25, 3) := by decide +kernel
theorem dX0_reached_10 : decode cX0_reached 10 = .ok (.aload_n 0, 1) := by decide +kernel
theorem dX0_reached_11 : decode cX0_reached 11 = .ok (.getfield 18, 3) := by decide +kernel
theorem dX0_reached_14 : decode cX0_reached 14 = .ok (.iload_n 3, 1) := by decide +kernel
theorem dX0_reached_15 : decode cX0_reached 15 = .ok (.iaload, 1) := by decide +kernel
theorem dX0_reached_16 : decode cX0_reached 16 = .ok (.iconst (-1), 1) := by decide +kernel
theorem dX0_reached_17 : decode cX0_reached 17 = .ok (.if_icmp .eq 9, 3) := by decide +kernel
theorem dX0_reached_20 : decode cX0_reached 20 = .ok (.lload_n 1, 1) := by decide +kernel
theorem dX0_reached_21 : decode cX0_reached 21 = .ok (.lconst 1, 1) := by decide +kernel
theorem dX0_reached_22 : decode cX0_reached 22 = .ok (.iload_n 3, 1) := by decide +kernel
theorem dX0_reached_23 : decode cX0_reached 23 = .ok (.lshl, 1) := by decide +kernel
theorem dX0_reached_24 : decode cX0_reached 24 = .ok (.lor, 1) := by decide +kernel
theorem dX0_reached_25 : decode cX0_reached 25 = .ok (.lstore_n 1, 1) := by decide +kernel
theorem dX0_reached_26 : decode cX0_reached 26 = .ok (.iinc 3 1, 3) := by decide +kernel
theorem dX0_reached_29 : decode cX0_reached 29 = .ok (.goto (-25), 3) := by decide +kernel
theorem dX0_reached_32 : decode cX0_reached 32 = .ok (.lload_n 1, 1) := by decide +kernel
theorem dX0_reached_33 : decode cX0_reached 33 = .ok (.lreturn, 1) := by decide +kernel
set_option maxRecDepth 20000 in
theorem ggX0_fillField_X0_search : GoodIn wsX0_fillField wsX0_search := goodIn_r _ [6, 7, 8, 9, 10, 11, 12, 5, 13, 14, 15, 16, 17, 18, 19, 20, 21, 22, 23, 24, 25, 26, 27, 28, 29, 1, 30, 31, 32, 33, 34, 35, 36, 37, 38, 56, 57, 58, 59, 60, 61, 62, 63, 64, 65, 66] (by decide +kernel) (by decide +kernel)
set_option maxRecDepth 20000 in
theorem gX0_fillField_X0_search : GoodIn wsX0_fillField (wsV RX0 44 RX0 yX0_search wsX0_search) := goodIn_app (goodIn_of _ (by decide +kernel)) ggX0_fillField_X0_search
set_option maxRecDepth 20000 in
theorem ggX0_fillField_X0_nearestOutside : GoodIn wsX0_fillField wsX0_nearestOutside := goodIn_r _ [42, 8, 9, 56, 57, 58, 59] (by decide +kernel) (by decide +kernel)
set_option maxRecDepth 20000 in
theorem gX0_fillField_X0_nearestOutside : GoodIn wsX0_fillField (wsV RX0 56 RX0 yX0_nearestOutside wsX0_nearestOutside) := goodIn_app (goodIn_of _ (by decide +kernel)) ggX0_fillField_X0_nearestOutside
set_option maxRecDepth 20000 in
theorem ggX0_fillField_X0_mostAlong : GoodIn wsX0_fillField wsX0_mostAlong := goodIn_r _ [46, 47, 7, 48, 49, 50, 51, 20, 21, 22, 17, 23, 24, 25, 26, 27, 28, 5, 29, 1, 30, 31, 32, 33, 34, 35, 36, 37, 38, 56, 57, 58, 59, 60, 61, 62, 63, 64, 65, 66] (by decide +kernel) (by decide +kernel)
set_option maxRecDepth 20000 in
theorem gX0_fillField_X0_mostAlong : GoodIn wsX0_fillField (wsV RX0 59 RX0 yX0_mostAlong wsX0_mostAlong) := goodIn_app (goodIn_of _ (by decide +kernel)) ggX0_fillField_X0_mostAlong
set_option maxRecDepth 20000 in
theorem ggX0_fillField_X0_push : GoodIn wsX0_fillField wsX0_push := goodIn_r _ [55, 7, 1, 20, 21, 22, 17, 23, 24, 25, 35, 36, 37, 38, 56, 57, 58, 59, 60, 61, 62, 63, 64, 65, 66] (by decide +kernel) (by decide +kernel)
set_option maxRecDepth 20000 in
theorem gX0_fillField_X0_push : GoodIn wsX0_fillField (wsV RX0 62 RX0 yX0_push wsX0_push) := goodIn_app (goodIn_of _ (by decide +kernel)) ggX0_fillField_X0_push
theorem dX0_fillField_0 : decode cX0_fillField 0 = .ok (.iconst 0, 1) := by decide +kernel
theorem dX0_fillField_1 : decode cX0_fillField 1 = .ok (.istore_n 2, 1) := by decide +kernel
theorem dX0_fillField_2 : decode cX0_fillField 2 = .ok (.iload_n 2, 1) := by decide +kernel
theorem dX0_fillField_3 : decode cX0_fillField 3 = .ok (.bipush 60, 2) := by decide +kernel
theorem dX0_fillField_5 : decode cX0_fillField 5 = .ok (.if_icmp .ge 16, 3) := by decide +kernel
theorem dX0_fillField_8 : decode cX0_fillField 8 = .ok (.aload_n 0, 1) := by decide +kernel
theorem dX0_fillField_9 : decode cX0_fillField 9 = .ok (.getfield 15, 3) := by decide +kernel
theorem dX0_fillField_12 : decode cX0_fillField 12 = .ok (.iload_n 2, 1) := by decide +kernel
theorem dX0_fillField_13 : decode cX0_fillField 13 = .ok (.iconst 0, 1) := by decide +kernel
theorem dX0_fillField_14 : decode cX0_fillField 14 = .ok (.iastore, 1) := by decide +kernel
theorem dX0_fillField_15 : decode cX0_fillField 15 = .ok (.iinc 2 1, 3) := by decide +kernel
theorem dX0_fillField_18 : decode cX0_fillField 18 = .ok (.goto (-16), 3) := by decide +kernel
theorem dX0_fillField_21 : decode cX0_fillField 21 = .ok (.iconst 1, 1) := by decide +kernel
theorem dX0_fillField_22 : decode cX0_fillField 22 = .ok (.istore_n 2, 1) := by decide +kernel
theorem dX0_fillField_23 : decode cX0_fillField 23 = .ok (.iconst 0, 1) := by decide +kernel
theorem dX0_fillField_24 : decode cX0_fillField 24 = .ok (.istore_n 3, 1) := by decide +kernel
theorem dX0_fillField_25 : decode cX0_fillField 25 = .ok (.iload_n 3, 1) := by decide +kernel
theorem dX0_fillField_26 : decode cX0_fillField 26 = .ok (.sipush 4000, 3) := by decide +kernel
theorem dX0_fillField_29 : decode cX0_fillField 29 = .ok (.if_icmp .ge 55, 3) := by decide +kernel
theorem dX0_fillField_32 : decode cX0_fillField 32 = .ok (.iload_n 2, 1) := by decide +kernel
theorem dX0_fillField_33 : decode cX0_fillField 33 = .ok (.ifCond .eq 51, 3) := by decide +kernel
theorem dX0_fillField_36 : decode cX0_fillField 36 = .ok (.aload_n 0, 1) := by decide +kernel
theorem dX0_fillField_37 : decode cX0_fillField 37 = .ok (.aload_n 0, 1) := by decide +kernel
theorem dX0_fillField_38 : decode cX0_fillField 38 = .ok (.aload_n 1, 1) := by decide +kernel
theorem dX0_fillField_39 : decode cX0_fillField 39 = .ok (.iconst 1, 1) := by decide +kernel
theorem dX0_fillField_40 : decode cX0_fillField 40 = .ok (.invokevirtual 44, 3) := by decide +kernel
theorem dX0_fillField_43 : decode cX0_fillField 43 = .ok (.invokevirtual 56, 3) := by decide +kernel
theorem dX0_fillField_46 : decode cX0_fillField 46 = .ok (.istore 4, 2) := by decide +kernel
theorem dX0_fillField_48 : decode cX0_fillField 48 = .ok (.iload 4, 2) := by decide +kernel
theorem dX0_fillField_50 : decode cX0_fillField 50 = .ok (.iconst (-1), 1) := by decide +kernel
theorem dX0_fillField_51 : decode cX0_fillField 51 = .ok (.if_icmp .eq 7, 3) := by decide +kernel
theorem dX0_fillField_54 : decode cX0_fillField 54 = .ok (.iconst 1, 1) := by decide +kernel
theorem dX0_fillField_55 : decode cX0_fillField 55 = .ok (.goto 4, 3) := by decide +kernel
theorem dX0_fillField_58 : decode cX0_fillField 58 = .ok (.iconst 0, 1) := by decide +kernel
theorem dX0_fillField_59 : decode cX0_fillField 59 = .ok (.istore_n 2, 1) := by decide +kernel
theorem dX0_fillField_60 : decode cX0_fillField 60 = .ok (.iload_n 2, 1) := by decide +kernel
theorem dX0_fillField_61 : decode cX0_fillField 61 = .ok (.ifCond .eq 17, 3) := by decide +kernel
theorem dX0_fillField_64 : decode cX0_fillField 64 = .ok (.aload_n 0, 1) := by decide +kernel
theorem dX0_fillField_65 : decode cX0_fillField 65 = .ok (.aload_n 1, 1) := by decide +kernel
theorem dX0_fillField_66 : decode cX0_fillField 66 = .ok (.iload 4, 2) := by decide +kernel
theorem dX0_fillField_68 : decode cX0_fillField 68 = .ok (.aload_n 0, 1) := by decide +kernel
theorem dX0_fillField_69 : decode cX0_fillField 69 = .ok (.aload_n 1, 1) := by decide +kernel
theorem dX0_fillField_70 : decode cX0_fillField 70 = .ok (.iload 4, 2) := by decide +kernel
theorem dX0_fillField_72 : decode cX0_fillField 72 = .ok (.invokevirtual 59, 3) := by decide +kernel
theorem dX0_fillField_75 : decode cX0_fillField 75 = .ok (.invokevirtual 62, 3) := by decide +kernel
theorem dX0_fillField_78 : decode cX0_fillField 78 = .ok (.iinc 3 1, 3) := by decide +kernel
theorem dX0_fillField_81 : decode cX0_fillField 81 = .ok (.goto (-56), 3) := by decide +kernel
theorem dX0_fillField_84 : decode cX0_fillField 84 = .ok (.return_, 1) := by decide +kernel
set_option maxRecDepth 20000 in
theorem ggX0_search_X0_searchBeside : GoodIn wsX0_search wsX0_searchBeside := goodIn_r _ [8, 1, 3, 9, 10, 11, 12, 13, 14, 15, 16, 17, 18, 19, 20, 21, 22, 23, 7, 24, 25, 26, 27, 28, 29, 30, 31, 32, 33, 34, 35, 36, 37, 38, 39, 40, 41, 42, 43, 44, 45] (by decide +kernel) (by decide +kernel)
set_option maxRecDepth 20000 in
theorem gX0_search_X0_searchBeside : GoodIn wsX0_search (wsV RX0 66 RX0 yX0_searchBeside wsX0_searchBeside) := goodIn_app (goodIn_of _ (by decide +kernel)) ggX0_search_X0_searchBeside
theorem dX0_search_0 : decode cX0_search 0 = .ok (.iconst 0, 1) := by decide +kernel
theorem dX0_search_1 : decode cX0_search 1 = .ok (.istore_n 3, 1) := by decide +kernel
theorem dX0_search_2 : decode cX0_search 2 = .ok (.iconst 0, 1) := by decide +kernel
theorem dX0_search_3 : decode cX0_search 3 = .ok (.istore 4, 2) := by decide +kernel
theorem dX0_search_5 : decode cX0_search 5 = .ok (.iload 4, 2) := by decide +kernel
theorem dX0_search_7 : decode cX0_search 7 = .ok (.bipush 36, 2) := by decide +kernel
theorem dX0_search_9 : decode cX0_search 9 = .ok (.if_icmp .ge 48, 3) := by decide +kernel
theorem dX0_search_12 : decode cX0_search 12 = .ok (.aload_n 0, 1) := by decide +kernel
theorem dX0_search_13 : decode cX0_search 13 = .ok (.getfield 18, 3) := by decide +kernel
theorem dX0_search_16 : decode cX0_search 16 = .ok (.iload 4, 2) := by decide +kernel
theorem dX0_search_18 : decode cX0_search 18 = .ok (.iconst (-1), 1) := by decide +kernel
theorem dX0_search_19 : decode cX0_search 19 = .ok (.iastore, 1) := by decide +kernel
theorem dX0_search_20 : decode cX0_search 20 = .ok (.aload_n 0, 1) := by decide +kernel
theorem dX0_search_21 : decode cX0_search 21 = .ok (.getfield 9, 3) := by decide +kernel
theorem dX0_search_24 : decode cX0_search 24 = .ok (.iload 4, 2) := by decide +kernel
theorem dX0_search_26 : decode cX0_search 26 = .ok (.iaload, 1) := by decide +kernel
theorem dX0_search_27 : decode cX0_search 27 = .ok (.iload_n 2, 1) := by decide +kernel
theorem dX0_search_28 : decode cX0_search 28 = .ok (.if_icmp .ne 23, 3) := by decide +kernel
theorem dX0_search_31 : decode cX0_search 31 = .ok (.aload_n 0, 1) := by decide +kernel
theorem dX0_search_32 : decode cX0_search 32 = .ok (.getfield 18, 3) := by decide +kernel
theorem dX0_search_35 : decode cX0_search 35 = .ok (.iload 4, 2) := by decide +kernel
theorem dX0_search_37 : decode cX0_search 37 = .ok (.bipush (-2), 2) := by decide +kernel
theorem dX0_search_39 : decode cX0_search 39 = .ok (.iastore, 1) := by decide +kernel
theorem dX0_search_40 : decode cX0_search 40 = .ok (.aload_n 0, 1) := by decide +kernel
theorem dX0_search_41 : decode cX0_search 41 = .ok (.getfield 21, 3) := by decide +kernel
theorem dX0_search_44 : decode cX0_search 44 = .ok (.iload_n 3, 1) := by decide +kernel
theorem dX0_search_45 : decode cX0_search 45 = .ok (.iload 4, 2) := by decide +kernel
theorem dX0_search_47 : decode cX0_search 47 = .ok (.iastore, 1) := by decide +kernel
theorem dX0_search_48 : decode cX0_search 48 = .ok (.iinc 3 1, 3) := by decide +kernel
theorem dX0_search_51 : decode cX0_search 51 = .ok (.iinc 4 1, 3) := by decide +kernel
theorem dX0_search_54 : decode cX0_search 54 = .ok (.goto (-49), 3) := by decide +kernel
theorem dX0_search_57 : decode cX0_search 57 = .ok (.iconst 0, 1) := by decide +kernel
theorem dX0_search_58 : decode cX0_search 58 = .ok (.istore 4, 2) := by decide +kernel
theorem dX0_search_60 : decode cX0_search 60 = .ok (.iload 4, 2) := by decide +kernel
theorem dX0_search_62 : decode cX0_search 62 = .ok (.bipush 36, 2) := by decide +kernel
theorem dX0_search_64 : decode cX0_search 64 = .ok (.if_icmp .ge 30, 3) := by decide +kernel
theorem dX0_search_67 : decode cX0_search 67 = .ok (.iload 4, 2) := by decide +kernel
theorem dX0_search_69 : decode cX0_search 69 = .ok (.iload_n 3, 1) := by decide +kernel
theorem dX0_search_70 : decode cX0_search 70 = .ok (.if_icmp .ge 24, 3) := by decide +kernel
theorem dX0_search_73 : decode cX0_search 73 = .ok (.aload_n 0, 1) := by decide +kernel
theorem dX0_search_74 : decode cX0_search 74 = .ok (.aload_n 1, 1) := by decide +kernel
theorem dX0_search_75 : decode cX0_search 75 = .ok (.iload_n 2, 1) := by decide +kernel
theorem dX0_search_76 : decode cX0_search 76 = .ok (.aload_n 0, 1) := by decide +kernel
theorem dX0_search_77 : decode cX0_search 77 = .ok (.getfield 21, 3) := by decide +kernel
theorem dX0_search_80 : decode cX0_search 80 = .ok (.iload 4, 2) := by decide +kernel
theorem dX0_search_82 : decode cX0_search 82 = .ok (.iaload, 1) := by decide +kernel
theorem dX0_search_83 : decode cX0_search 83 = .ok (.iload_n 3, 1) := by decide +kernel
theorem dX0_search_84 : decode cX0_search 84 = .ok (.invokevirtual 66, 3) := by decide +kernel
theorem dX0_search_87 : decode cX0_search 87 = .ok (.istore_n 3, 1) := by decide +kernel
theorem dX0_search_88 : decode cX0_search 88 = .ok (.iinc 4 1, 3) := by decide +kernel
theorem dX0_search_91 : decode cX0_search 91 = .ok (.goto (-31), 3) := by decide +kernel
theorem dX0_search_94 : decode cX0_search 94 = .ok (.iload_n 3, 1) := by decide +kernel
theorem dX0_search_95 : decode cX0_search 95 = .ok (.ireturn, 1) := by decide +kernel
set_option maxRecDepth 20000 in
theorem ggX0_searchBeside_X2_beside : GoodIn wsX0_searchBeside wsX2_beside := goodIn_r _ [7, 8, 34, 35, 36, 37, 38, 39, 40] (by decide +kernel) (by decide +kernel)
set_option maxRecDepth 20000 in
theorem gX0_searchBeside_X2_beside : GoodIn wsX0_searchBeside (wsV RX0 70 RX2 yX2_beside wsX2_beside) := goodIn_app (goodIn_of _ (by decide +kernel)) ggX0_searchBeside_X2_beside
set_option maxRecDepth 20000 in
theorem ggX0_searchBeside_X2_otherEnd : GoodIn wsX0_searchBeside wsX2_otherEnd := goodIn_r _ [12, 13, 14, 34, 35, 36, 37, 38, 39, 40] (by decide +kernel) (by decide +kernel)
set_option maxRecDepth 20000 in
theorem gX0_searchBeside_X2_otherEnd : GoodIn wsX0_searchBeside (wsV RX0 74 RX2 yX2_otherEnd wsX2_otherEnd) := goodIn_app (goodIn_of _ (by decide +kernel)) ggX0_searchBeside_X2_otherEnd
set_option maxRecDepth 20000 in
theorem ggX0_searchBeside_X0_leftFrom : GoodIn wsX0_searchBeside wsX0_leftFrom := goodIn_r _ [19, 20, 21, 22, 23, 6, 24, 25, 26, 27, 28, 29, 13, 30, 31, 32, 33, 34, 35, 36, 37, 38, 39, 40] (by decide +kernel) (by decide +kernel)
set_option maxRecDepth 20000 in
theorem gX0_searchBeside_X0_leftFrom : GoodIn wsX0_searchBeside (wsV RX0 77 RX0 yX0_leftFrom wsX0_leftFrom) := goodIn_app (goodIn_of _ (by decide +kernel)) ggX0_searchBeside_X0_leftFrom
theorem dX0_searchBeside_0 : decode cX0_searchBeside 0 = .ok (.iload 4, 2) := by decide +kernel
theorem dX0_searchBeside_2 : decode cX0_searchBeside 2 = .ok (.istore 5, 2) := by decide +kernel
theorem dX0_searchBeside_4 : decode cX0_searchBeside 4 = .ok (.iconst 0, 1) := by decide +kernel
theorem dX0_searchBeside_5 : decode cX0_searchBeside 5 = .ok (.istore 6, 2) := by decide +kernel
theorem dX0_searchBeside_7 : decode cX0_searchBeside 7 = .ok (.iload 6, 2) := by decide +kernel
theorem dX0_searchBeside_9 : decode cX0_searchBeside 9 = .ok (.iconst 4, 1) := by decide +kernel
theorem dX0_searchBeside_10 : decode cX0_searchBeside 10 = .ok (.if_icmp .ge 97, 3) := by decide +kernel
theorem dX0_searchBeside_13 : decode cX0_searchBeside 13 = .ok (.aload_n 1, 1) := by decide +kernel
theorem dX0_searchBeside_14 : decode cX0_searchBeside 14 = .ok (.iload_n 3, 1) := by decide +kernel
theorem dX0_searchBeside_15 : decode cX0_searchBeside 15 = .ok (.iload 6, 2) := by decide +kernel
theorem dX0_searchBeside_17 : decode cX0_searchBeside 17 = .ok (.invokevirtual 70, 3) := by decide +kernel
theorem dX0_searchBeside_20 : decode cX0_searchBeside 20 = .ok (.istore 7, 2) := by decide +kernel
theorem dX0_searchBeside_22 : decode cX0_searchBeside 22 = .ok (.iload 7, 2) := by decide +kernel
theorem dX0_searchBeside_24 : decode cX0_searchBeside 24 = .ok (.iconst (-1), 1) := by decide +kernel
theorem dX0_searchBeside_25 : decode cX0_searchBeside 25 = .ok (.if_icmp .eq 76, 3) := by decide +kernel
theorem dX0_searchBeside_28 : decode cX0_searchBeside 28 = .ok (.aload_n 1, 1) := by decide +kernel
theorem dX0_searchBeside_29 : decode cX0_searchBeside 29 = .ok (.iload 7, 2) := by decide +kernel
theorem dX0_searchBeside_31 : decode cX0_searchBeside 31 = .ok (.iload_n 3, 1) := by decide +kernel
theorem dX0_searchBeside_32 : decode cX0_searchBeside 32 = .ok (.invokevirtual 74, 3) := by decide +kernel
theorem dX0_searchBeside_35 : decode cX0_searchBeside 35 = .ok (.istore 8, 2) := by decide +kernel
theorem dX0_searchBeside_37 : decode cX0_searchBeside 37 = .ok (.aload_n 0, 1) := by decide +kernel
theorem dX0_searchBeside_38 : decode cX0_searchBeside 38 = .ok (.aload_n 1, 1) := by decide +kernel
theorem dX0_searchBeside_39 : decode cX0_searchBeside 39 = .ok (.iload 7, 2) := by decide +kernel
theorem dX0_searchBeside_41 : decode cX0_searchBeside 41 = .ok (.iload_n 2, 1) := by decide +kernel
theorem dX0_searchBeside_42 : decode cX0_searchBeside 42 = .ok (.iconst 1, 1) := by decide +kernel
theorem dX0_searchBeside_43 : decode cX0_searchBeside 43 = .ok (.if_icmp .ne 7, 3) := by decide +kernel
theorem dX0_searchBeside_46 : decode cX0_searchBeside 46 = .ok (.iload_n 3, 1) := by decide +kernel
theorem dX0_searchBeside_47 : decode cX0_searchBeside 47 = .ok (.goto 5, 3) := by decide +kernel
theorem dX0_searchBeside_50 : decode cX0_searchBeside 50 = .ok (.iload 8, 2) := by decide +kernel
theorem dX0_searchBeside_52 : decode cX0_searchBeside 52 = .ok (.invokevirtual 77, 3) := by decide +kernel
theorem dX0_searchBeside_55 : decode cX0_searchBeside 55 = .ok (.istore 9, 2) := by decide +kernel
theorem dX0_searchBeside_57 : decode cX0_searchBeside 57 = .ok (.aload_n 0, 1) := by decide +kernel
theorem dX0_searchBeside_58 : decode cX0_searchBeside 58 = .ok (.getfield 18, 3) := by decide +kernel
theorem dX0_searchBeside_61 : decode cX0_searchBeside 61 = .ok (.iload 8, 2) := by decide +kernel
theorem dX0_searchBeside_63 : decode cX0_searchBeside 63 = .ok (.iaload, 1) := by decide +kernel
theorem dX0_searchBeside_64 : decode cX0_searchBeside 64 = .ok (.iconst (-1), 1) := by decide +kernel
theorem dX0_searchBeside_65 : decode cX0_searchBeside 65 = .ok (.if_icmp .ne 36, 3) := by decide +kernel
theorem dX0_searchBeside_68 : decode cX0_searchBeside 68 = .ok (.iload 9, 2) := by decide +kernel
theorem dX0_searchBeside_70 : decode cX0_searchBeside 70 = .ok (.ifCond .le 31, 3) := by decide +kernel
theorem dX0_searchBeside_73 : decode cX0_searchBeside 73 = .ok (.iload 5, 2) := by decide +kernel
theorem dX0_searchBeside_75 : decode cX0_searchBeside 75 = .ok (.bipush 36, 2) := by decide +kernel
theorem dX0_searchBeside_77 : decode cX0_searchBeside 77 = .ok (.if_icmp .ge 24, 3) := by decide +kernel
theorem dX0_searchBeside_80 : decode cX0_searchBeside 80 = .ok (.aload_n 0, 1) := by decide +kernel
theorem dX0_searchBeside_81 : decode cX0_searchBeside 81 = .ok (.getfield 18, 3) := by decide +kernel
theorem dX0_searchBeside_84 : decode cX0_searchBeside 84 = .ok (.iload 8, 2) := by decide +kernel
theorem dX0_searchBeside_86 : decode cX0_searchBeside 86 = .ok (.iload 7, 2) := by decide +kernel
theorem dX0_searchBeside_88 : decode cX0_searchBeside 88 = .ok (.iastore, 1) := by decide +kernel
theorem dX0_searchBeside_89 : decode cX0_searchBeside 89 = .ok (.aload_n 0, 1) := by decide +kernel
theorem dX0_searchBeside_90 : decode cX0_searchBeside 90 = .ok (.getfield 21, 3) := by decide +kernel
theorem dX0_searchBeside_93 : decode cX0_searchBeside 93 = .ok (.iload 5, 2) := by decide +kernel
theorem dX0_searchBeside_95 : decode cX0_searchBeside 95 = .ok (.iload 8, 2) := by decide +kernel
theorem dX0_searchBeside_97 : decode cX0_searchBeside 97 = .ok (.iastore, 1) := by decide +kernel
theorem dX0_searchBeside_98 : decode cX0_searchBeside 98 = .ok (.iinc 5 1, 3) := by decide +kernel
theorem dX0_searchBeside_101 : decode cX0_searchBeside 101 = .ok (.iinc 6 1, 3) := by decide +kernel
theorem dX0_searchBeside_104 : decode cX0_searchBeside 104 = .ok (.goto (-97), 3) := by decide +kernel
theorem dX0_searchBeside_107 : decode cX0_searchBeside 107 = .ok (.iload 5, 2) := by decide +kernel
theorem dX0_searchBeside_109 : decode cX0_searchBeside 109 = .ok (.ireturn, 1) := by decide +kernel
set_option maxRecDepth 20000 in
theorem ggX0_leftFrom_X2_price : GoodIn wsX0_leftFrom wsX2_price := goodIn_r _ [6, 7, 17, 18, 19, 20, 21, 22, 23] (by decide +kernel) (by decide +kernel)
set_option maxRecDepth 20000 in
theorem gX0_leftFrom_X2_price : GoodIn wsX0_leftFrom (wsV RX0 37 RX2 yX2_price wsX2_price) := goodIn_app (goodIn_of _ (by decide +kernel)) ggX0_leftFrom_X2_price
set_option maxRecDepth 20000 in
theorem ggX0_leftFrom_X2_low : GoodIn wsX0_leftFrom wsX2_low := goodIn_r _ [11, 12, 17, 18, 19, 20, 21, 22, 23] (by decide +kernel) (by decide +kernel)
set_option maxRecDepth 20000 in
theorem gX0_leftFrom_X2_low : GoodIn wsX0_leftFrom (wsV RX0 28 RX2 yX2_low wsX2_low) := goodIn_app (goodIn_of _ (by decide +kernel)) ggX0_leftFrom_X2_low
theorem dX0_leftFrom_0 : decode cX0_leftFrom 0 = .ok (.aload_n 1, 1) := by decide +kernel
theorem dX0_leftFrom_1 : decode cX0_leftFrom 1 = .ok (.iload_n 2, 1) := by decide +kernel
theorem dX0_leftFrom_2 : decode cX0_leftFrom 2 = .ok (.invokevirtual 37, 3) := by decide +kernel
theorem dX0_leftFrom_5 : decode cX0_leftFrom 5 = .ok (.iload_n 3, 1) := by decide +kernel
theorem dX0_leftFrom_6 : decode cX0_leftFrom 6 = .ok (.aload_n 1, 1) := by decide +kernel
theorem dX0_leftFrom_7 : decode cX0_leftFrom 7 = .ok (.iload_n 2, 1) := by decide +kernel
theorem dX0_leftFrom_8 : decode cX0_leftFrom 8 = .ok (.invokevirtual 28, 3) := by decide +kernel
theorem dX0_leftFrom_11 : decode cX0_leftFrom 11 = .ok (.if_icmp .ne 13, 3) := by decide +kernel
theorem dX0_leftFrom_14 : decode cX0_leftFrom 14 = .ok (.aload_n 0, 1) := by decide +kernel
theorem dX0_leftFrom_15 : decode cX0_leftFrom 15 = .ok (.getfield 15, 3) := by decide +kernel
theorem dX0_leftFrom_18 : decode cX0_leftFrom 18 = .ok (.iload_n 2, 1) := by decide +kernel
theorem dX0_leftFrom_19 : decode cX0_leftFrom 19 = .ok (.iaload, 1) := by decide +kernel
theorem dX0_leftFrom_20 : decode cX0_leftFrom 20 = .ok (.ineg, 1) := by decide +kernel
theorem dX0_leftFrom_21 : decode cX0_leftFrom 21 = .ok (.goto 9, 3) := by decide +kernel
theorem dX0_leftFrom_24 : decode cX0_leftFrom 24 = .ok (.aload_n 0, 1) := by decide +kernel
theorem dX0_leftFrom_25 : decode cX0_leftFrom 25 = .ok (.getfield 15, 3) := by decide +kernel
theorem dX0_leftFrom_28 : decode cX0_leftFrom 28 = .ok (.iload_n 2, 1) := by decide +kernel
theorem dX0_leftFrom_29 : decode cX0_leftFrom 29 = .ok (.iaload, 1) := by decide +kernel
theorem dX0_leftFrom_30 : decode cX0_leftFrom 30 = .ok (.iadd, 1) := by decide +kernel
theorem dX0_leftFrom_31 : decode cX0_leftFrom 31 = .ok (.ireturn, 1) := by decide +kernel
theorem dX0_nearestOutside_0 : decode cX0_nearestOutside 0 = .ok (.iconst 0, 1) := by decide +kernel
theorem dX0_nearestOutside_1 : decode cX0_nearestOutside 1 = .ok (.istore_n 2, 1) := by decide +kernel
theorem dX0_nearestOutside_2 : decode cX0_nearestOutside 2 = .ok (.iload_n 2, 1) := by decide +kernel
theorem dX0_nearestOutside_3 : decode cX0_nearestOutside 3 = .ok (.bipush 36, 2) := by decide +kernel
theorem dX0_nearestOutside_5 : decode cX0_nearestOutside 5 = .ok (.if_icmp .ge 36, 3) := by decide +kernel
theorem dX0_nearestOutside_8 : decode cX0_nearestOutside 8 = .ok (.iload_n 2, 1) := by decide +kernel
theorem dX0_nearestOutside_9 : decode cX0_nearestOutside 9 = .ok (.iload_n 1, 1) := by decide +kernel
theorem dX0_nearestOutside_10 : decode cX0_nearestOutside 10 = .ok (.if_icmp .ge 31, 3) := by decide +kernel
theorem dX0_nearestOutside_13 : decode cX0_nearestOutside 13 = .ok (.aload_n 0, 1) := by decide +kernel
theorem dX0_nearestOutside_14 : decode cX0_nearestOutside 14 = .ok (.getfield 9, 3) := by decide +kernel
theorem dX0_nearestOutside_17 : decode cX0_nearestOutside 17 = .ok (.aload_n 0, 1) := by decide +kernel
theorem dX0_nearestOutside_18 : decode cX0_nearestOutside 18 = .ok (.getfield 21, 3) := by decide +kernel
theorem dX0_nearestOutside_21 : decode cX0_nearestOutside 21 = .ok (.iload_n 2, 1) := by decide +kernel
theorem dX0_nearestOutside_22 : decode cX0_nearestOutside 22 = .ok (.iaload, 1) := by decide +kernel
theorem dX0_nearestOutside_23 : decode cX0_nearestOutside 23 = .ok (.iaload, 1) := by decide +kernel
theorem dX0_nearestOutside_24 : decode cX0_nearestOutside 24 = .ok (.iconst 2, 1) := by decide +kernel
theorem dX0_nearestOutside_25 : decode cX0_nearestOutside 25 = .ok (.if_icmp .ne 10, 3) := by decide +kernel
theorem dX0_nearestOutside_28 : decode cX0_nearestOutside 28 = .ok (.aload_n 0, 1) := by decide +kernel
theorem dX0_nearestOutside_29 : decode cX0_nearestOutside 29 = .ok (.getfield 21, 3) := by decide +kernel
theorem dX0_nearestOutside_32 : decode cX0_nearestOutside 32 = .ok (.iload_n 2, 1) := by decide +kernel
theorem dX0_nearestOutside_33 : decode cX0_nearestOutside 33 = .ok (.iaload, 1) := by decide +kernel
theorem dX0_nearestOutside_34 : decode cX0_nearestOutside 34 = .ok (.ireturn, 1) := by decide +kernel
theorem dX0_nearestOutside_35 : decode cX0_nearestOutside 35 = .ok (.iinc 2 1, 3) := by decide +kernel
theorem dX0_nearestOutside_38 : decode cX0_nearestOutside 38 = .ok (.goto (-36), 3) := by decide +kernel
theorem dX0_nearestOutside_41 : decode cX0_nearestOutside 41 = .ok (.iconst (-1), 1) := by decide +kernel
theorem dX0_nearestOutside_42 : decode cX0_nearestOutside 42 = .ok (.ireturn, 1) := by decide +kernel
set_option maxRecDepth 20000 in
theorem ggX0_mostAlong_X2_otherEnd : GoodIn wsX0_mostAlong wsX2_otherEnd := goodIn_r _ [11, 12, 13, 33, 34, 35, 36, 37, 38, 39] (by decide +kernel) (by decide +kernel)
set_option maxRecDepth 20000 in
theorem gX0_mostAlong_X2_otherEnd : GoodIn wsX0_mostAlong (wsV RX0 74 RX2 yX2_otherEnd wsX2_otherEnd) := goodIn_app (goodIn_of _ (by decide +kernel)) ggX0_mostAlong_X2_otherEnd
set_option maxRecDepth 20000 in
theorem ggX0_mostAlong_X0_leftFrom : GoodIn wsX0_mostAlong wsX0_leftFrom := goodIn_r _ [18, 19, 20, 21, 22, 10, 23, 24, 25, 26, 27, 28, 12, 29, 30, 31, 32, 33, 34, 35, 36, 37, 38, 39] (by decide +kernel) (by decide +kernel)
set_option maxRecDepth 20000 in
theorem gX0_mostAlong_X0_leftFrom : GoodIn wsX0_mostAlong (wsV RX0 77 RX0 yX0_leftFrom wsX0_leftFrom) := goodIn_app (goodIn_of _ (by decide +kernel)) ggX0_mostAlong_X0_leftFrom
theorem dX0_mostAlong_0 : decode cX0_mostAlong 0 = .ok (.ldc 81, 2) := by decide +kernel
theorem dX0_mostAlong_2 : decode cX0_mostAlong 2 = .ok (.istore_n 3, 1) := by decide +kernel
theorem dX0_mostAlong_3 : decode cX0_mostAlong 3 = .ok (.iload_n 2, 1) := by decide +kernel
theorem dX0_mostAlong_4 : decode cX0_mostAlong 4 = .ok (.istore 4, 2) := by decide +kernel
theorem dX0_mostAlong_6 : decode cX0_mostAlong 6 = .ok (.iconst 0, 1) := by decide +kernel
theorem dX0_mostAlong_7 : decode cX0_mostAlong 7 = .ok (.istore 5, 2) := by decide +kernel
theorem dX0_mostAlong_9 : decode cX0_mostAlong 9 = .ok (.iload 5, 2) := by decide +kernel
theorem dX0_mostAlong_11 : decode cX0_mostAlong 11 = .ok (.bipush 36, 2) := by decide +kernel
theorem dX0_mostAlong_13 : decode cX0_mostAlong 13 = .ok (.if_icmp .ge 52, 3) := by decide +kernel
theorem dX0_mostAlong_16 : decode cX0_mostAlong 16 = .ok (.aload_n 0, 1) := by decide +kernel
theorem dX0_mostAlong_17 : decode cX0_mostAlong 17 = .ok (.getfield 18, 3) := by decide +kernel
theorem dX0_mostAlong_20 : decode cX0_mostAlong 20 = .ok (.iload 4, 2) := by decide +kernel
theorem dX0_mostAlong_22 : decode cX0_mostAlong 22 = .ok (.iaload, 1) := by decide +kernel
theorem dX0_mostAlong_23 : decode cX0_mostAlong 23 = .ok (.ifCond .lt 42, 3) := by decide +kernel
theorem dX0_mostAlong_26 : decode cX0_mostAlong 26 = .ok (.aload_n 0, 1) := by decide +kernel
theorem dX0_mostAlong_27 : decode cX0_mostAlong 27 = .ok (.getfield 18, 3) := by decide +kernel
theorem dX0_mostAlong_30 : decode cX0_mostAlong 30 = .ok (.iload 4, 2) := by decide +kernel
theorem dX0_mostAlong_32 : decode cX0_mostAlong 32 = .ok (.iaload, 1) := by decide +kernel
theorem dX0_mostAlong_33 : decode cX0_mostAlong 33 = .ok (.istore 6, 2) := by decide +kernel
theorem dX0_mostAlong_35 : decode cX0_mostAlong 35 = .ok (.aload_n 1, 1) := by decide +kernel
theorem dX0_mostAlong_36 : decode cX0_mostAlong 36 = .ok (.iload 6, 2) := by decide +kernel
theorem dX0_mostAlong_38 : decode cX0_mostAlong 38 = .ok (.iload 4, 2) := by decide +kernel
theorem dX0_mostAlong_40 : decode cX0_mostAlong 40 = .ok (.invokevirtual 74, 3) := by decide +kernel
theorem dX0_mostAlong_43 : decode cX0_mostAlong 43 = .ok (.istore 4, 2) := by decide +kernel
theorem dX0_mostAlong_45 : decode cX0_mostAlong 45 = .ok (.iload_n 3, 1) := by decide +kernel
theorem dX0_mostAlong_46 : decode cX0_mostAlong 46 = .ok (.aload_n 0, 1) := by decide +kernel
theorem dX0_mostAlong_47 : decode cX0_mostAlong 47 = .ok (.aload_n 1, 1) := by decide +kernel
theorem dX0_mostAlong_48 : decode cX0_mostAlong 48 = .ok (.iload 6, 2) := by decide +kernel
theorem dX0_mostAlong_50 : decode cX0_mostAlong 50 = .ok (.iload 4, 2) := by decide +kernel
theorem dX0_mostAlong_52 : decode cX0_mostAlong 52 = .ok (.invokevirtual 77, 3) := by decide +kernel
theorem dX0_mostAlong_55 : decode cX0_mostAlong 55 = .ok (.invokestatic 82, 3) := by decide +kernel
theorem dX0_mostAlong_58 : decode cX0_mostAlong 58 = .ok (.istore_n 3, 1) := by decide +kernel
theorem dX0_mostAlong_59 : decode cX0_mostAlong 59 = .ok (.iinc 5 1, 3) := by decide +kernel
theorem dX0_mostAlong_62 : decode cX0_mostAlong 62 = .ok (.goto (-53), 3) := by decide +kernel
theorem dX0_mostAlong_65 : decode cX0_mostAlong 65 = .ok (.iload_n 3, 1) := by decide +kernel
theorem dX0_mostAlong_66 : decode cX0_mostAlong 66 = .ok (.ireturn, 1) := by decide +kernel
set_option maxRecDepth 20000 in
theorem ggX0_push_X2_otherEnd : GoodIn wsX0_push wsX2_otherEnd := goodIn_r _ [7, 8, 9, 18, 19, 20, 21, 22, 23, 24] (by decide +kernel) (by decide +kernel)
set_option maxRecDepth 20000 in
theorem gX0_push_X2_otherEnd : GoodIn wsX0_push (wsV RX0 74 RX2 yX2_otherEnd wsX2_otherEnd) := goodIn_app (goodIn_of _ (by decide +kernel)) ggX0_push_X2_otherEnd
set_option maxRecDepth 20000 in
theorem ggX0_push_X2_low : GoodIn wsX0_push wsX2_low := goodIn_r _ [13, 8, 18, 19, 20, 21, 22, 23, 24] (by decide +kernel) (by decide +kernel)
set_option maxRecDepth 20000 in
theorem gX0_push_X2_low : GoodIn wsX0_push (wsV RX0 28 RX2 yX2_low wsX2_low) := goodIn_app (goodIn_of _ (by decide +kernel)) ggX0_push_X2_low
theorem dX0_push_0 : decode cX0_push 0 = .ok (.iload_n 2, 1) := by decide +kernel
theorem dX0_push_1 : decode cX0_push 1 = .ok (.istore 4, 2) := by decide +kernel
theorem dX0_push_3 : decode cX0_push 3 = .ok (.iconst 0, 1) := by decide +kernel
theorem dX0_push_4 : decode cX0_push 4 = .ok (.istore 5, 2) := by decide +kernel
theorem dX0_push_6 : decode cX0_push 6 = .ok (.iload 5, 2) := by decide +kernel
theorem dX0_push_8 : decode cX0_push 8 = .ok (.bipush 36, 2) := by decide +kernel
theorem dX0_push_10 : decode cX0_push 10 = .ok (.if_icmp .ge 65, 3) := by decide +kernel
theorem dX0_push_13 : decode cX0_push 13 = .ok (.aload_n 0, 1) := by decide +kernel
theorem dX0_push_14 : decode cX0_push 14 = .ok (.getfield 18, 3) := by decide +kernel
theorem dX0_push_17 : decode cX0_push 17 = .ok (.iload 4, 2) := by decide +kernel
theorem dX0_push_19 : decode cX0_push 19 = .ok (.iaload, 1) := by decide +kernel
theorem dX0_push_20 : decode cX0_push 20 = .ok (.ifCond .lt 55, 3) := by decide +kernel
theorem dX0_push_23 : decode cX0_push 23 = .ok (.aload_n 0, 1) := by decide +kernel
theorem dX0_push_24 : decode cX0_push 24 = .ok (.getfield 18, 3) := by decide +kernel
theorem dX0_push_27 : decode cX0_push 27 = .ok (.iload 4, 2) := by decide +kernel
theorem dX0_push_29 : decode cX0_push 29 = .ok (.iaload, 1) := by decide +kernel
theorem dX0_push_30 : decode cX0_push 30 = .ok (.istore 6, 2) := by decide +kernel
theorem dX0_push_32 : decode cX0_push 32 = .ok (.aload_n 1, 1) := by decide +kernel
theorem dX0_push_33 : decode cX0_push 33 = .ok (.iload 6, 2) := by decide +kernel
theorem dX0_push_35 : decode cX0_push 35 = .ok (.iload 4, 2) := by decide +kernel
theorem dX0_push_37 : decode cX0_push 37 = .ok (.invokevirtual 74, 3) := by decide +kernel
theorem dX0_push_40 : decode cX0_push 40 = .ok (.istore 4, 2) := by decide +kernel
theorem dX0_push_42 : decode cX0_push 42 = .ok (.aload_n 0, 1) := by decide +kernel
theorem dX0_push_43 : decode cX0_push 43 = .ok (.getfield 15, 3) := by decide +kernel
theorem dX0_push_46 : decode cX0_push 46 = .ok (.iload 6, 2) := by decide +kernel
theorem dX0_push_48 : decode cX0_push 48 = .ok (.dup2, 1) := by decide +kernel
theorem dX0_push_49 : decode cX0_push 49 = .ok (.iaload, 1) := by decide +kernel
theorem dX0_push_50 : decode cX0_push 50 = .ok (.iload 4, 2) := by decide +kernel
theorem dX0_push_52 : decode cX0_push 52 = .ok (.aload_n 1, 1) := by decide +kernel
theorem dX0_push_53 : decode cX0_push 53 = .ok (.iload 6, 2) := by decide +kernel
theorem dX0_push_55 : decode cX0_push 55 = .ok (.invokevirtual 28, 3) := by decide +kernel
theorem dX0_push_58 : decode cX0_push 58 = .ok (.if_icmp .ne 7, 3) := by decide +kernel
theorem dX0_push_61 : decode cX0_push 61 = .ok (.iload_n 3, 1) := by decide +kernel
theorem dX0_push_62 : decode cX0_push 62 = .ok (.goto 5, 3) := by decide +kernel
theorem dX0_push_65 : decode cX0_push 65 = .ok (.iload_n 3, 1) := by decide +kernel
theorem dX0_push_66 : decode cX0_push 66 = .ok (.ineg, 1) := by decide +kernel
theorem dX0_push_67 : decode cX0_push 67 = .ok (.iadd, 1) := by decide +kernel
theorem dX0_push_68 : decode cX0_push 68 = .ok (.iastore, 1) := by decide +kernel
theorem dX0_push_69 : decode cX0_push 69 = .ok (.iinc 5 1, 3) := by decide +kernel
theorem dX0_push_72 : decode cX0_push 72 = .ok (.goto (-66), 3) := by decide +kernel
theorem dX0_push_75 : decode cX0_push 75 = .ok (.return_, 1) := by decide +kernel
theorem dX1_init_0 : decode cX1_init 0 = .ok (.aload_n 0, 1) := by decide +kernel
theorem dX1_init_1 : decode cX1_init 1 = .ok (.invokespecial 3, 3) := by decide +kernel
theorem dX1_init_4 : decode cX1_init 4 = .ok (.aload_n 0, 1) := by decide +kernel
theorem dX1_init_5 : decode cX1_init 5 = .ok (.bipush 36, 2) := by decide +kernel
theorem dX1_init_7 : decode cX1_init 7 = .ok (.newarray .int, 2) := by decide +kernel
theorem dX1_init_9 : decode cX1_init 9 = .ok (.putfield 9, 3) := by decide +kernel
theorem dX1_init_12 : decode cX1_init 12 = .ok (.aload_n 0, 1) := by decide +kernel
theorem dX1_init_13 : decode cX1_init 13 = .ok (.bipush 36, 2) := by decide +kernel
theorem dX1_init_15 : decode cX1_init 15 = .ok (.newarray .int, 2) := by decide +kernel
theorem dX1_init_17 : decode cX1_init 17 = .ok (.putfield 15, 3) := by decide +kernel
theorem dX1_init_20 : decode cX1_init 20 = .ok (.aload_n 0, 1) := by decide +kernel
theorem dX1_init_21 : decode cX1_init 21 = .ok (.bipush 8, 2) := by decide +kernel
theorem dX1_init_23 : decode cX1_init 23 = .ok (.newarray .boolean, 2) := by decide +kernel
theorem dX1_init_25 : decode cX1_init 25 = .ok (.putfield 18, 3) := by decide +kernel
theorem dX1_init_28 : decode cX1_init 28 = .ok (.aload_n 0, 1) := by decide +kernel
theorem dX1_init_29 : decode cX1_init 29 = .ok (.bipush 36, 2) := by decide +kernel
theorem dX1_init_31 : decode cX1_init 31 = .ok (.newarray .boolean, 2) := by decide +kernel
theorem dX1_init_33 : decode cX1_init 33 = .ok (.putfield 22, 3) := by decide +kernel
theorem dX1_init_36 : decode cX1_init 36 = .ok (.aload_n 0, 1) := by decide +kernel
theorem dX1_init_37 : decode cX1_init 37 = .ok (.bipush 36, 2) := by decide +kernel
theorem dX1_init_39 : decode cX1_init 39 = .ok (.newarray .int, 2) := by decide +kernel
theorem dX1_init_41 : decode cX1_init 41 = .ok (.putfield 25, 3) := by decide +kernel
theorem dX1_init_44 : decode cX1_init 44 = .ok (.aload_n 0, 1) := by decide +kernel
theorem dX1_init_45 : decode cX1_init 45 = .ok (.iconst 0, 1) := by decide +kernel
theorem dX1_init_46 : decode cX1_init 46 = .ok (.putfield 28, 3) := by decide +kernel
theorem dX1_init_49 : decode cX1_init 49 = .ok (.aload_n 0, 1) := by decide +kernel
theorem dX1_init_50 : decode cX1_init 50 = .ok (.iconst 0, 1) := by decide +kernel
theorem dX1_init_51 : decode cX1_init 51 = .ok (.putfield 32, 3) := by decide +kernel
theorem dX1_init_54 : decode cX1_init 54 = .ok (.return_, 1) := by decide +kernel
theorem dX1_ownerOf_0 : decode cX1_ownerOf 0 = .ok (.aload_n 0, 1) := by decide +kernel
theorem dX1_ownerOf_1 : decode cX1_ownerOf 1 = .ok (.getfield 9, 3) := by decide +kernel
theorem dX1_ownerOf_4 : decode cX1_ownerOf 4 = .ok (.iload_n 1, 1) := by decide +kernel
theorem dX1_ownerOf_5 : decode cX1_ownerOf 5 = .ok (.iaload, 1) := by decide +kernel
theorem dX1_ownerOf_6 : decode cX1_ownerOf 6 = .ok (.ireturn, 1) := by decide +kernel
theorem dX1_isHeld_0 : decode cX1_isHeld 0 = .ok (.aload_n 0, 1) := by decide +kernel
theorem dX1_isHeld_1 : decode cX1_isHeld 1 = .ok (.getfield 18, 3) := by decide +kernel
theorem dX1_isHeld_4 : decode cX1_isHeld 4 = .ok (.iload_n 1, 1) := by decide +kernel
theorem dX1_isHeld_5 : decode cX1_isHeld 5 = .ok (.baload, 1) := by decide +kernel
theorem dX1_isHeld_6 : decode cX1_isHeld 6 = .ok (.ireturn, 1) := by decide +kernel
theorem dX1_workDone_0 : decode cX1_workDone 0 = .ok (.aload_n 0, 1) := by decide +kernel
theorem dX1_workDone_1 : decode cX1_workDone 1 = .ok (.getfield 28, 3) := by decide +kernel
theorem dX1_workDone_4 : decode cX1_workDone 4 = .ok (.ireturn, 1) := by decide +kernel
theorem dX1_energyLost_0 : decode cX1_energyLost 0 = .ok (.aload_n 0, 1) := by decide +kernel
theorem dX1_energyLost_1 : decode cX1_energyLost 1 = .ok (.getfield 32, 3) := by decide +kernel
theorem dX1_energyLost_4 : decode cX1_energyLost 4 = .ok (.ireturn, 1) := by decide +kernel
theorem dX1_addWork_0 : decode cX1_addWork 0 = .ok (.aload_n 0, 1) := by decide +kernel
theorem dX1_addWork_1 : decode cX1_addWork 1 = .ok (.dup, 1) := by decide +kernel
theorem dX1_addWork_2 : decode cX1_addWork 2 = .ok (.getfield 28, 3) := by decide +kernel
theorem dX1_addWork_5 : decode cX1_addWork 5 = .ok (.iload_n 1, 1) := by decide +kernel
theorem dX1_addWork_6 : decode cX1_addWork 6 = .ok (.iadd, 1) := by decide +kernel
theorem dX1_addWork_7 : decode cX1_addWork 7 = .ok (.putfield 28, 3) := by decide +kernel
theorem dX1_addWork_10 : decode cX1_addWork 10 = .ok (.return_, 1) := by decide +kernel
set_option maxRecDepth 20000 in
theorem ggX1_energyNow_X1_energyOf : GoodIn wsX1_energyNow wsX1_energyOf := goodIn_r _ [5, 6, 7, 8, 9, 10, 11, 12, 13, 14, 15, 16, 17, 18, 19, 20, 21, 29, 30, 31, 32, 33, 34, 35] (by decide +kernel) (by decide +kernel)
set_option maxRecDepth 20000 in
theorem gX1_energyNow_X1_energyOf : GoodIn wsX1_energyNow (va_wsS RX1 35 yX1_energyOf wsX1_energyOf) := goodIn_app (goodIn_of _ (by decide +kernel)) ggX1_energyNow_X1_energyOf
theorem dX1_energyNow_0 : decode cX1_energyNow 0 = .ok (.aload_n 1, 1) := by decide +kernel
theorem dX1_energyNow_1 : decode cX1_energyNow 1 = .ok (.aload_n 0, 1) := by decide +kernel
theorem dX1_energyNow_2 : decode cX1_energyNow 2 = .ok (.getfield 9, 3) := by decide +kernel
theorem dX1_energyNow_5 : decode cX1_energyNow 5 = .ok (.invokestatic 35, 3) := by decide +kernel
theorem dX1_energyNow_8 : decode cX1_energyNow 8 = .ok (.ireturn, 1) := by decide +kernel
set_option maxRecDepth 20000 in
theorem ggX1_energyOf_X2_low : GoodIn wsX1_energyOf wsX2_low := goodIn_r _ [5, 6, 17, 18, 19, 20, 21, 22, 23] (by decide +kernel) (by decide +kernel)
set_option maxRecDepth 20000 in
theorem gX1_energyOf_X2_low : GoodIn wsX1_energyOf (wsV RX1 39 RX2 yX2_low wsX2_low) := goodIn_app (goodIn_of _ (by decide +kernel)) ggX1_energyOf_X2_low
set_option maxRecDepth 20000 in
theorem ggX1_energyOf_X2_high : GoodIn wsX1_energyOf wsX2_high := goodIn_r _ [10, 11, 17, 18, 19, 20, 21, 22, 23] (by decide +kernel) (by decide +kernel)
set_option maxRecDepth 20000 in
theorem gX1_energyOf_X2_high : GoodIn wsX1_energyOf (wsV RX1 45 RX2 yX2_high wsX2_high) := goodIn_app (goodIn_of _ (by decide +kernel)) ggX1_energyOf_X2_high
set_option maxRecDepth 20000 in
theorem ggX1_energyOf_X2_price : GoodIn wsX1_energyOf wsX2_price := goodIn_r _ [15, 16, 17, 18, 19, 20, 21, 22, 23] (by decide +kernel) (by decide +kernel)
set_option maxRecDepth 20000 in
theorem gX1_energyOf_X2_price : GoodIn wsX1_energyOf (wsV RX1 48 RX2 yX2_price wsX2_price) := goodIn_app (goodIn_of _ (by decide +kernel)) ggX1_energyOf_X2_price
theorem dX1_energyOf_0 : decode cX1_energyOf 0 = .ok (.iconst 0, 1) := by decide +kernel
theorem dX1_energyOf_1 : decode cX1_energyOf 1 = .ok (.istore_n 2, 1) := by decide +kernel
theorem dX1_energyOf_2 : decode cX1_energyOf 2 = .ok (.iconst 0, 1) := by decide +kernel
theorem dX1_energyOf_3 : decode cX1_energyOf 3 = .ok (.istore_n 3, 1) := by decide +kernel
theorem dX1_energyOf_4 : decode cX1_energyOf 4 = .ok (.iload_n 3, 1) := by decide +kernel
theorem dX1_energyOf_5 : decode cX1_energyOf 5 = .ok (.bipush 60, 2) := by decide +kernel
theorem dX1_energyOf_7 : decode cX1_energyOf 7 = .ok (.if_icmp .ge 34, 3) := by decide +kernel
theorem dX1_energyOf_10 : decode cX1_energyOf 10 = .ok (.aload_n 1, 1) := by decide +kernel
theorem dX1_energyOf_11 : decode cX1_energyOf 11 = .ok (.aload_n 0, 1) := by decide +kernel
theorem dX1_energyOf_12 : decode cX1_energyOf 12 = .ok (.iload_n 3, 1) := by decide +kernel
theorem dX1_energyOf_13 : decode cX1_energyOf 13 = .ok (.invokevirtual 39, 3) := by decide +kernel
theorem dX1_energyOf_16 : decode cX1_energyOf 16 = .ok (.iaload, 1) := by decide +kernel
theorem dX1_energyOf_17 : decode cX1_energyOf 17 = .ok (.aload_n 1, 1) := by decide +kernel
theorem dX1_energyOf_18 : decode cX1_energyOf 18 = .ok (.aload_n 0, 1) := by decide +kernel
theorem dX1_energyOf_19 : decode cX1_energyOf 19 = .ok (.iload_n 3, 1) := by decide +kernel
theorem dX1_energyOf_20 : decode cX1_energyOf 20 = .ok (.invokevirtual 45, 3) := by decide +kernel
theorem dX1_energyOf_23 : decode cX1_energyOf 23 = .ok (.iaload, 1) := by decide +kernel
theorem dX1_energyOf_24 : decode cX1_energyOf 24 = .ok (.if_icmp .eq 11, 3) := by decide +kernel
theorem dX1_energyOf_27 : decode cX1_energyOf 27 = .ok (.iload_n 2, 1) := by decide +kernel
theorem dX1_energyOf_28 : decode cX1_energyOf 28 = .ok (.aload_n 0, 1) := by decide +kernel
theorem dX1_energyOf_29 : decode cX1_energyOf 29 = .ok (.iload_n 3, 1) := by decide +kernel
theorem dX1_energyOf_30 : decode cX1_energyOf 30 = .ok (.invokevirtual 48, 3) := by decide +kernel
theorem dX1_energyOf_33 : decode cX1_energyOf 33 = .ok (.iadd, 1) := by decide +kernel
theorem dX1_energyOf_34 : decode cX1_energyOf 34 = .ok (.istore_n 2, 1) := by decide +kernel
theorem dX1_energyOf_35 : decode cX1_energyOf 35 = .ok (.iinc 3 1, 3) := by decide +kernel
theorem dX1_energyOf_38 : decode cX1_energyOf 38 = .ok (.goto (-34), 3) := by decide +kernel
theorem dX1_energyOf_41 : decode cX1_energyOf 41 = .ok (.iload_n 2, 1) := by decide +kernel
theorem dX1_energyOf_42 : decode cX1_energyOf 42 = .ok (.ireturn, 1) := by decide +kernel
set_option maxRecDepth 20000 in
theorem ggX1_change_X1_energyNow : GoodIn wsX1_change wsX1_energyNow := goodIn_r _ [6, 1, 7, 8, 5, 9, 10, 11, 12, 13, 14, 15, 16, 17, 18, 19, 20, 21, 22, 23, 24, 25, 31, 32, 33, 34, 35, 36, 37, 38, 39, 40, 41, 42, 43, 44] (by decide +kernel) (by decide +kernel)
set_option maxRecDepth 20000 in
theorem gX1_change_X1_energyNow : GoodIn wsX1_change (wsV RX1 51 RX1 yX1_energyNow wsX1_energyNow) := goodIn_app (goodIn_of _ (by decide +kernel)) ggX1_change_X1_energyNow
set_option maxRecDepth 20000 in
theorem ggX1_change_X1_addWork : GoodIn wsX1_change wsX1_addWork := goodIn_r _ [29, 30, 31, 32, 33, 34, 35, 36, 37] (by decide +kernel) (by decide +kernel)
set_option maxRecDepth 20000 in
theorem gX1_change_X1_addWork : GoodIn wsX1_change (wsV RX1 55 RX1 yX1_addWork wsX1_addWork) := goodIn_app (goodIn_of _ (by decide +kernel)) ggX1_change_X1_addWork
theorem dX1_change_0 : decode cX1_change 0 = .ok (.aload_n 0, 1) := by decide +kernel
theorem dX1_change_1 : decode cX1_change 1 = .ok (.aload_n 1, 1) := by decide +kernel
theorem dX1_change_2 : decode cX1_change 2 = .ok (.invokevirtual 51, 3) := by decide +kernel
theorem dX1_change_5 : decode cX1_change 5 = .ok (.istore 4, 2) := by decide +kernel
theorem dX1_change_7 : decode cX1_change 7 = .ok (.aload_n 0, 1) := by decide +kernel
theorem dX1_change_8 : decode cX1_change 8 = .ok (.getfield 9, 3) := by decide +kernel
theorem dX1_change_11 : decode cX1_change 11 = .ok (.iload_n 2, 1) := by decide +kernel
theorem dX1_change_12 : decode cX1_change 12 = .ok (.iaload, 1) := by decide +kernel
theorem dX1_change_13 : decode cX1_change 13 = .ok (.istore 5, 2) := by decide +kernel
theorem dX1_change_15 : decode cX1_change 15 = .ok (.aload_n 0, 1) := by decide +kernel
theorem dX1_change_16 : decode cX1_change 16 = .ok (.getfield 9, 3) := by decide +kernel
theorem dX1_change_19 : decode cX1_change 19 = .ok (.iload_n 2, 1) := by decide +kernel
theorem dX1_change_20 : decode cX1_change 20 = .ok (.iload_n 3, 1) := by decide +kernel
theorem dX1_change_21 : decode cX1_change 21 = .ok (.iastore, 1) := by decide +kernel
theorem dX1_change_22 : decode cX1_change 22 = .ok (.aload_n 0, 1) := by decide +kernel
theorem dX1_change_23 : decode cX1_change 23 = .ok (.aload_n 0, 1) := by decide +kernel
theorem dX1_change_24 : decode cX1_change 24 = .ok (.aload_n 1, 1) := by decide +kernel
theorem dX1_change_25 : decode cX1_change 25 = .ok (.invokevirtual 51, 3) := by decide +kernel
theorem dX1_change_28 : decode cX1_change 28 = .ok (.iload 4, 2) := by decide +kernel
theorem dX1_change_30 : decode cX1_change 30 = .ok (.isub, 1) := by decide +kernel
theorem dX1_change_31 : decode cX1_change 31 = .ok (.invokevirtual 55, 3) := by decide +kernel
theorem dX1_change_34 : decode cX1_change 34 = .ok (.iload 5, 2) := by decide +kernel
theorem dX1_change_36 : decode cX1_change 36 = .ok (.ireturn, 1) := by decide +kernel
theorem dX1_changeHeld_0 : decode cX1_changeHeld 0 = .ok (.aload_n 0, 1) := by decide +kernel
theorem dX1_changeHeld_1 : decode cX1_changeHeld 1 = .ok (.getfield 18, 3) := by decide +kernel
theorem dX1_changeHeld_4 : decode cX1_changeHeld 4 = .ok (.iload_n 1, 1) := by decide +kernel
theorem dX1_changeHeld_5 : decode cX1_changeHeld 5 = .ok (.baload, 1) := by decide +kernel
theorem dX1_changeHeld_6 : decode cX1_changeHeld 6 = .ok (.istore_n 3, 1) := by decide +kernel
theorem dX1_changeHeld_7 : decode cX1_changeHeld 7 = .ok (.aload_n 0, 1) := by decide +kernel
theorem dX1_changeHeld_8 : decode cX1_changeHeld 8 = .ok (.getfield 18, 3) := by decide +kernel
theorem dX1_changeHeld_11 : decode cX1_changeHeld 11 = .ok (.iload_n 1, 1) := by decide +kernel
theorem dX1_changeHeld_12 : decode cX1_changeHeld 12 = .ok (.iload_n 2, 1) := by decide +kernel
theorem dX1_changeHeld_13 : decode cX1_changeHeld 13 = .ok (.bastore, 1) := by decide +kernel
theorem dX1_changeHeld_14 : decode cX1_changeHeld 14 = .ok (.iload_n 3, 1) := by decide +kernel
theorem dX1_changeHeld_15 : decode cX1_changeHeld 15 = .ok (.ireturn, 1) := by decide +kernel
set_option maxRecDepth 20000 in
theorem ggX1_letBreathe_X1_energyNow : GoodIn wsX1_letBreathe wsX1_energyNow := goodIn_r _ [7, 1, 8, 9, 6, 10, 11, 12, 13, 14, 15, 16, 17, 18, 19, 20, 21, 22, 23, 24, 25, 26, 48, 49, 50, 51, 52, 53, 54, 55, 56, 57, 58, 59, 60, 61] (by decide +kernel) (by decide +kernel)
set_option maxRecDepth 20000 in
theorem gX1_letBreathe_X1_energyNow : GoodIn wsX1_letBreathe (wsV RX1 51 RX1 yX1_energyNow wsX1_energyNow) := goodIn_app (goodIn_of _ (by decide +kernel)) ggX1_letBreathe_X1_energyNow
set_option maxRecDepth 20000 in
theorem ggX1_letBreathe_X1_breath : GoodIn wsX1_letBreathe wsX1_breath := goodIn_r _ [30, 31, 32, 33, 34, 6, 35, 36, 37, 38, 39, 40, 41, 14, 42, 43, 44, 45, 46, 47, 16, 21, 22, 23, 24, 25, 26, 48, 49, 50, 51, 52, 53, 54, 55, 56, 57, 58, 59, 60, 61] (by decide +kernel) (by decide +kernel)
set_option maxRecDepth 20000 in
theorem gX1_letBreathe_X1_breath : GoodIn wsX1_letBreathe (wsV RX1 59 RX1 yX1_breath wsX1_breath) := goodIn_app (goodIn_of _ (by decide +kernel)) ggX1_letBreathe_X1_breath
theorem dX1_letBreathe_0 : decode cX1_letBreathe 0 = .ok (.aload_n 0, 1) := by decide +kernel
theorem dX1_letBreathe_1 : decode cX1_letBreathe 1 = .ok (.aload_n 1, 1) := by decide +kernel
theorem dX1_letBreathe_2 : decode cX1_letBreathe 2 = .ok (.invokevirtual 51, 3) := by decide +kernel
theorem dX1_letBreathe_5 : decode cX1_letBreathe 5 = .ok (.istore_n 3, 1) := by decide +kernel
theorem dX1_letBreathe_6 : decode cX1_letBreathe 6 = .ok (.iconst 0, 1) := by decide +kernel
theorem dX1_letBreathe_7 : decode cX1_letBreathe 7 = .ok (.istore 4, 2) := by decide +kernel
theorem dX1_letBreathe_9 : decode cX1_letBreathe 9 = .ok (.iconst 1, 1) := by decide +kernel
theorem dX1_letBreathe_10 : decode cX1_letBreathe 10 = .ok (.istore 5, 2) := by decide +kernel
theorem dX1_letBreathe_12 : decode cX1_letBreathe 12 = .ok (.iconst 0, 1) := by decide +kernel
theorem dX1_letBreathe_13 : decode cX1_letBreathe 13 = .ok (.istore 6, 2) := by decide +kernel
theorem dX1_letBreathe_15 : decode cX1_letBreathe 15 = .ok (.iload 6, 2) := by decide +kernel
theorem dX1_letBreathe_17 : decode cX1_letBreathe 17 = .ok (.iload_n 2, 1) := by decide +kernel
theorem dX1_letBreathe_18 : decode cX1_letBreathe 18 = .ok (.if_icmp .ge 44, 3) := by decide +kernel
theorem dX1_letBreathe_21 : decode cX1_letBreathe 21 = .ok (.iload 5, 2) := by decide +kernel
theorem dX1_letBreathe_23 : decode cX1_letBreathe 23 = .ok (.ifCond .eq 39, 3) := by decide +kernel
theorem dX1_letBreathe_26 : decode cX1_letBreathe 26 = .ok (.aload_n 0, 1) := by decide +kernel
theorem dX1_letBreathe_27 : decode cX1_letBreathe 27 = .ok (.aload_n 1, 1) := by decide +kernel
theorem dX1_letBreathe_28 : decode cX1_letBreathe 28 = .ok (.aload_n 0, 1) := by decide +kernel
theorem dX1_letBreathe_29 : decode cX1_letBreathe 29 = .ok (.getfield 9, 3) := by decide +kernel
theorem dX1_letBreathe_32 : decode cX1_letBreathe 32 = .ok (.invokevirtual 59, 3) := by decide +kernel
theorem dX1_letBreathe_35 : decode cX1_letBreathe 35 = .ok (.istore 7, 2) := by decide +kernel
theorem dX1_letBreathe_37 : decode cX1_letBreathe 37 = .ok (.iload 4, 2) := by decide +kernel
theorem dX1_letBreathe_39 : decode cX1_letBreathe 39 = .ok (.iload 7, 2) := by decide +kernel
theorem dX1_letBreathe_41 : decode cX1_letBreathe 41 = .ok (.iadd, 1) := by decide +kernel
theorem dX1_letBreathe_42 : decode cX1_letBreathe 42 = .ok (.istore 4, 2) := by decide +kernel
theorem dX1_letBreathe_44 : decode cX1_letBreathe 44 = .ok (.iload 7, 2) := by decide +kernel
theorem dX1_letBreathe_46 : decode cX1_letBreathe 46 = .ok (.ifCond .le 7, 3) := by decide +kernel
theorem dX1_letBreathe_49 : decode cX1_letBreathe 49 = .ok (.iconst 1, 1) := by decide +kernel
theorem dX1_letBreathe_50 : decode cX1_letBreathe 50 = .ok (.goto 4, 3) := by decide +kernel
theorem dX1_letBreathe_53 : decode cX1_letBreathe 53 = .ok (.iconst 0, 1) := by decide +kernel
theorem dX1_letBreathe_54 : decode cX1_letBreathe 54 = .ok (.istore 5, 2) := by decide +kernel
theorem dX1_letBreathe_56 : decode cX1_letBreathe 56 = .ok (.iinc 6 1, 3) := by decide +kernel
theorem dX1_letBreathe_59 : decode cX1_letBreathe 59 = .ok (.goto (-44), 3) := by decide +kernel
theorem dX1_letBreathe_62 : decode cX1_letBreathe 62 = .ok (.aload_n 0, 1) := by decide +kernel
theorem dX1_letBreathe_63 : decode cX1_letBreathe 63 = .ok (.dup, 1) := by decide +kernel
theorem dX1_letBreathe_64 : decode cX1_letBreathe 64 = .ok (.getfield 32, 3) := by decide +kernel
theorem dX1_letBreathe_67 : decode cX1_letBreathe 67 = .ok (.iload_n 3, 1) := by decide +kernel
theorem dX1_letBreathe_68 : decode cX1_letBreathe 68 = .ok (.aload_n 0, 1) := by decide +kernel
theorem dX1_letBreathe_69 : decode cX1_letBreathe 69 = .ok (.aload_n 1, 1) := by decide +kernel
theorem dX1_letBreathe_70 : decode cX1_letBreathe 70 = .ok (.invokevirtual 51, 3) := by decide +kernel
theorem dX1_letBreathe_73 : decode cX1_letBreathe 73 = .ok (.isub, 1) := by decide +kernel
theorem dX1_letBreathe_74 : decode cX1_letBreathe 74 = .ok (.iadd, 1) := by decide +kernel
theorem dX1_letBreathe_75 : decode cX1_letBreathe 75 = .ok (.putfield 32, 3) := by decide +kernel
theorem dX1_letBreathe_78 : decode cX1_letBreathe 78 = .ok (.iload 4, 2) := by decide +kernel
theorem dX1_letBreathe_80 : decode cX1_letBreathe 80 = .ok (.ireturn, 1) := by decide +kernel
set_option maxRecDepth 20000 in
theorem ggX1_breathsToRest_X1_breath : GoodIn wsX1_breathsToRest wsX1_breath := goodIn_r _ [11, 12, 13, 14, 15, 10, 16, 17, 18, 19, 20, 21, 22, 23, 24, 25, 26, 27, 28, 29, 30, 31, 32, 33, 34, 35, 36, 37, 38, 39, 40, 41, 42, 43, 44, 45, 46, 47, 48, 49, 50] (by decide +kernel) (by decide +kernel)
set_option maxRecDepth 20000 in
theorem gX1_breathsToRest_X1_breath : GoodIn wsX1_breathsToRest (wsV RX1 59 RX1 yX1_breath wsX1_breath) := goodIn_app (goodIn_of _ (by decide +kernel)) ggX1_breathsToRest_X1_breath
theorem dX1_breathsToRest_0 : decode cX1_breathsToRest 0 = .ok (.aload_n 0, 1) := by decide +kernel
theorem dX1_breathsToRest_1 : decode cX1_breathsToRest 1 = .ok (.getfield 9, 3) := by decide +kernel
theorem dX1_breathsToRest_4 : decode cX1_breathsToRest 4 = .ok (.iconst 0, 1) := by decide +kernel
theorem dX1_breathsToRest_5 : decode cX1_breathsToRest 5 = .ok (.aload_n 0, 1) := by decide +kernel
theorem dX1_breathsToRest_6 : decode cX1_breathsToRest 6 = .ok (.getfield 15, 3) := by decide +kernel
theorem dX1_breathsToRest_9 : decode cX1_breathsToRest 9 = .ok (.iconst 0, 1) := by decide +kernel
theorem dX1_breathsToRest_10 : decode cX1_breathsToRest 10 = .ok (.bipush 36, 2) := by decide +kernel
theorem dX1_breathsToRest_12 : decode cX1_breathsToRest 12 = .ok (.invokestatic 62, 3) := by decide +kernel
theorem dX1_breathsToRest_15 : decode cX1_breathsToRest 15 = .ok (.iconst 0, 1) := by decide +kernel
theorem dX1_breathsToRest_16 : decode cX1_breathsToRest 16 = .ok (.istore_n 2, 1) := by decide +kernel
theorem dX1_breathsToRest_17 : decode cX1_breathsToRest 17 = .ok (.iload_n 2, 1) := by decide +kernel
theorem dX1_breathsToRest_18 : decode cX1_breathsToRest 18 = .ok (.sipush 4000, 3) := by decide +kernel
theorem dX1_breathsToRest_21 : decode cX1_breathsToRest 21 = .ok (.if_icmp .ge 21, 3) := by decide +kernel
theorem dX1_breathsToRest_24 : decode cX1_breathsToRest 24 = .ok (.aload_n 0, 1) := by decide +kernel
theorem dX1_breathsToRest_25 : decode cX1_breathsToRest 25 = .ok (.aload_n 1, 1) := by decide +kernel
theorem dX1_breathsToRest_26 : decode cX1_breathsToRest 26 = .ok (.aload_n 0, 1) := by decide +kernel
theorem dX1_breathsToRest_27 : decode cX1_breathsToRest 27 = .ok (.getfield 15, 3) := by decide +kernel
theorem dX1_breathsToRest_30 : decode cX1_breathsToRest 30 = .ok (.invokevirtual 59, 3) := by decide +kernel
theorem dX1_breathsToRest_33 : decode cX1_breathsToRest 33 = .ok (.ifCond .le 9, 3) := by decide +kernel
theorem dX1_breathsToRest_36 : decode cX1_breathsToRest 36 = .ok (.iinc 2 1, 3) := by decide +kernel
theorem dX1_breathsToRest_39 : decode cX1_breathsToRest 39 = .ok (.goto (-22), 3) := by decide +kernel
theorem dX1_breathsToRest_42 : decode cX1_breathsToRest 42 = .ok (.iload_n 2, 1) := by decide +kernel
theorem dX1_breathsToRest_43 : decode cX1_breathsToRest 43 = .ok (.ireturn, 1) := by decide +kernel
set_option maxRecDepth 20000 in
theorem ggX1_energyAtRest_X1_breathsToRest : GoodIn wsX1_energyAtRest wsX1_breathsToRest := goodIn_r _ [6, 7, 1, 8, 9, 10, 11, 12, 13, 14, 5, 15, 16, 17, 18, 19, 20, 21, 22, 23, 24, 25, 26, 27, 28, 29, 30, 31, 32, 33, 34, 35, 36, 37, 38, 39, 40, 52, 53, 54, 55, 56, 57, 58, 59, 60, 61, 62, 63, 64, 65] (by decide +kernel) (by decide +kernel)
set_option maxRecDepth 20000 in
theorem gX1_energyAtRest_X1_breathsToRest : GoodIn wsX1_energyAtRest (wsV RX1 68 RX1 yX1_breathsToRest wsX1_breathsToRest) := goodIn_app (goodIn_of _ (by decide +kernel)) ggX1_energyAtRest_X1_breathsToRest
set_option maxRecDepth 20000 in
theorem ggX1_energyAtRest_X1_energyOf : GoodIn wsX1_energyAtRest wsX1_energyOf := goodIn_r _ [43, 44, 45, 46, 27, 47, 34, 48, 49, 50, 51, 35, 36, 37, 38, 39, 40, 59, 60, 61, 62, 63, 64, 65] (by decide +kernel) (by decide +kernel)
set_option maxRecDepth 20000 in
theorem gX1_energyAtRest_X1_energyOf : GoodIn wsX1_energyAtRest (va_wsS RX1 35 yX1_energyOf wsX1_energyOf) := goodIn_app (goodIn_of _ (by decide +kernel)) ggX1_energyAtRest_X1_energyOf
theorem dX1_energyAtRest_0 : decode cX1_energyAtRest 0 = .ok (.aload_n 0, 1) := by decide +kernel
theorem dX1_energyAtRest_1 : decode cX1_energyAtRest 1 = .ok (.aload_n 1, 1) := by decide +kernel
theorem dX1_energyAtRest_2 : decode cX1_energyAtRest 2 = .ok (.invokevirtual 68, 3) := by decide +kernel
theorem dX1_energyAtRest_5 : decode cX1_energyAtRest 5 = .ok (.pop, 1) := by decide +kernel
theorem dX1_energyAtRest_6 : decode cX1_energyAtRest 6 = .ok (.aload_n 1, 1) := by decide +kernel
theorem dX1_energyAtRest_7 : decode cX1_energyAtRest 7 = .ok (.aload_n 0, 1) := by decide +kernel
theorem dX1_energyAtRest_8 : decode cX1_energyAtRest 8 = .ok (.getfield 15, 3) := by decide +kernel
theorem dX1_energyAtRest_11 : decode cX1_energyAtRest 11 = .ok (.invokestatic 35, 3) := by decide +kernel
theorem dX1_energyAtRest_14 : decode cX1_energyAtRest 14 = .ok (.ireturn, 1) := by decide +kernel
set_option maxRecDepth 20000 in
theorem ggX1_breath_X1_bestOwner : GoodIn wsX1_breath wsX1_bestOwner := goodIn_r _ [6, 1, 7, 8, 5, 9, 10, 11, 12, 13, 14, 15, 16, 17, 18, 19, 20, 21, 22, 23, 24, 25, 26, 27, 28, 29, 30, 31, 32, 33, 34, 35, 36, 37, 38, 39, 40] (by decide +kernel) (by decide +kernel)
set_option maxRecDepth 20000 in
theorem gX1_breath_X1_bestOwner : GoodIn wsX1_breath (wsV RX1 71 RX1 yX1_bestOwner wsX1_bestOwner) := goodIn_app (goodIn_of _ (by decide +kernel)) ggX1_breath_X1_bestOwner
theorem dX1_breath_0 : decode cX1_breath 0 = .ok (.iconst 0, 1) := by decide +kernel
theorem dX1_breath_1 : decode cX1_breath 1 = .ok (.istore_n 3, 1) := by decide +kernel
theorem dX1_breath_2 : decode cX1_breath 2 = .ok (.iconst 0, 1) := by decide +kernel
theorem dX1_breath_3 : decode cX1_breath 3 = .ok (.istore 4, 2) := by decide +kernel
theorem dX1_breath_5 : decode cX1_breath 5 = .ok (.iload 4, 2) := by decide +kernel
theorem dX1_breath_7 : decode cX1_breath 7 = .ok (.bipush 36, 2) := by decide +kernel
theorem dX1_breath_9 : decode cX1_breath 9 = .ok (.if_icmp .ge 49, 3) := by decide +kernel
theorem dX1_breath_12 : decode cX1_breath 12 = .ok (.aload_n 0, 1) := by decide +kernel
theorem dX1_breath_13 : decode cX1_breath 13 = .ok (.getfield 18, 3) := by decide +kernel
theorem dX1_breath_16 : decode cX1_breath 16 = .ok (.aload_n 2, 1) := by decide +kernel
theorem dX1_breath_17 : decode cX1_breath 17 = .ok (.iload 4, 2) := by decide +kernel
theorem dX1_breath_19 : decode cX1_breath 19 = .ok (.iaload, 1) := by decide +kernel
theorem dX1_breath_20 : decode cX1_breath 20 = .ok (.baload, 1) := by decide +kernel
theorem dX1_breath_21 : decode cX1_breath 21 = .ok (.ifCond .ne 31, 3) := by decide +kernel
theorem dX1_breath_24 : decode cX1_breath 24 = .ok (.aload_n 0, 1) := by decide +kernel
theorem dX1_breath_25 : decode cX1_breath 25 = .ok (.aload_n 1, 1) := by decide +kernel
theorem dX1_breath_26 : decode cX1_breath 26 = .ok (.aload_n 2, 1) := by decide +kernel
theorem dX1_breath_27 : decode cX1_breath 27 = .ok (.iload 4, 2) := by decide +kernel
theorem dX1_breath_29 : decode cX1_breath 29 = .ok (.invokevirtual 71, 3) := by decide +kernel
theorem dX1_breath_32 : decode cX1_breath 32 = .ok (.istore 5, 2) := by decide +kernel
theorem dX1_breath_34 : decode cX1_breath 34 = .ok (.iload 5, 2) := by decide +kernel
theorem dX1_breath_36 : decode cX1_breath 36 = .ok (.aload_n 2, 1) := by decide +kernel
theorem dX1_breath_37 : decode cX1_breath 37 = .ok (.iload 4, 2) := by decide +kernel
theorem dX1_breath_39 : decode cX1_breath 39 = .ok (.iaload, 1) := by decide +kernel
theorem dX1_breath_40 : decode cX1_breath 40 = .ok (.if_icmp .eq 12, 3) := by decide +kernel
theorem dX1_breath_43 : decode cX1_breath 43 = .ok (.aload_n 2, 1) := by decide +kernel
theorem dX1_breath_44 : decode cX1_breath 44 = .ok (.iload 4, 2) := by decide +kernel
theorem dX1_breath_46 : decode cX1_breath 46 = .ok (.iload 5, 2) := by decide +kernel
theorem dX1_breath_48 : decode cX1_breath 48 = .ok (.iastore, 1) := by decide +kernel
theorem dX1_breath_49 : decode cX1_breath 49 = .ok (.iinc 3 1, 3) := by decide +kernel
theorem dX1_breath_52 : decode cX1_breath 52 = .ok (.iinc 4 1, 3) := by decide +kernel
theorem dX1_breath_55 : decode cX1_breath 55 = .ok (.goto (-50), 3) := by decide +kernel
theorem dX1_breath_58 : decode cX1_breath 58 = .ok (.iload_n 3, 1) := by decide +kernel
theorem dX1_breath_59 : decode cX1_breath 59 = .ok (.ireturn, 1) := by decide +kernel
set_option maxRecDepth 20000 in
theorem ggX1_bestOwner_X1_wallsWith : GoodIn wsX1_bestOwner wsX1_wallsWith := goodIn_r _ [5, 6, 7, 8, 9, 10, 11, 12, 13, 14, 15, 16, 17, 18, 19, 20, 21, 22, 30, 31, 32, 33, 34, 35, 36] (by decide +kernel) (by decide +kernel)
set_option maxRecDepth 20000 in
theorem gX1_bestOwner_X1_wallsWith : GoodIn wsX1_bestOwner (va_wsS RX1 75 yX1_wallsWith wsX1_wallsWith) := goodIn_app (goodIn_of _ (by decide +kernel)) ggX1_bestOwner_X1_wallsWith
set_option maxRecDepth 20000 in
theorem ggX1_bestOwner_X2_beside : GoodIn wsX1_bestOwner wsX2_beside := goodIn_r _ [10, 11, 30, 31, 32, 33, 34, 35, 36] (by decide +kernel) (by decide +kernel)
set_option maxRecDepth 20000 in
theorem gX1_bestOwner_X2_beside : GoodIn wsX1_bestOwner (wsV RX1 79 RX2 yX2_beside wsX2_beside) := goodIn_app (goodIn_of _ (by decide +kernel)) ggX1_bestOwner_X2_beside
set_option maxRecDepth 20000 in
theorem ggX1_bestOwner_X2_otherEnd : GoodIn wsX1_bestOwner wsX2_otherEnd := goodIn_r _ [15, 16, 17, 30, 31, 32, 33, 34, 35, 36] (by decide +kernel) (by decide +kernel)
set_option maxRecDepth 20000 in
theorem gX1_bestOwner_X2_otherEnd : GoodIn wsX1_bestOwner (wsV RX1 83 RX2 yX2_otherEnd wsX2_otherEnd) := goodIn_app (goodIn_of _ (by decide +kernel)) ggX1_bestOwner_X2_otherEnd
theorem dX1_bestOwner_0 : decode cX1_bestOwner 0 = .ok (.aload_n 2, 1) := by decide +kernel
theorem dX1_bestOwner_1 : decode cX1_bestOwner 1 = .ok (.iload_n 3, 1) := by decide +kernel
theorem dX1_bestOwner_2 : decode cX1_bestOwner 2 = .ok (.iaload, 1) := by decide +kernel
theorem dX1_bestOwner_3 : decode cX1_bestOwner 3 = .ok (.istore 4, 2) := by decide +kernel
theorem dX1_bestOwner_5 : decode cX1_bestOwner 5 = .ok (.iload 4, 2) := by decide +kernel
theorem dX1_bestOwner_7 : decode cX1_bestOwner 7 = .ok (.istore 5, 2) := by decide +kernel
theorem dX1_bestOwner_9 : decode cX1_bestOwner 9 = .ok (.aload_n 1, 1) := by decide +kernel
theorem dX1_bestOwner_10 : decode cX1_bestOwner 10 = .ok (.aload_n 2, 1) := by decide +kernel
theorem dX1_bestOwner_11 : decode cX1_bestOwner 11 = .ok (.iload_n 3, 1) := by decide +kernel
theorem dX1_bestOwner_12 : decode cX1_bestOwner 12 = .ok (.iload 4, 2) := by decide +kernel
theorem dX1_bestOwner_14 : decode cX1_bestOwner 14 = .ok (.invokestatic 75, 3) := by decide +kernel
theorem dX1_bestOwner_17 : decode cX1_bestOwner 17 = .ok (.istore 6, 2) := by decide +kernel
theorem dX1_bestOwner_19 : decode cX1_bestOwner 19 = .ok (.iconst 0, 1) := by decide +kernel
theorem dX1_bestOwner_20 : decode cX1_bestOwner 20 = .ok (.istore 7, 2) := by decide +kernel
theorem dX1_bestOwner_22 : decode cX1_bestOwner 22 = .ok (.iload 7, 2) := by decide +kernel
theorem dX1_bestOwner_24 : decode cX1_bestOwner 24 = .ok (.iconst 4, 1) := by decide +kernel
theorem dX1_bestOwner_25 : decode cX1_bestOwner 25 = .ok (.if_icmp .ge 103, 3) := by decide +kernel
theorem dX1_bestOwner_28 : decode cX1_bestOwner 28 = .ok (.aload_n 1, 1) := by decide +kernel
theorem dX1_bestOwner_29 : decode cX1_bestOwner 29 = .ok (.iload_n 3, 1) := by decide +kernel
theorem dX1_bestOwner_30 : decode cX1_bestOwner 30 = .ok (.iload 7, 2) := by decide +kernel
theorem dX1_bestOwner_32 : decode cX1_bestOwner 32 = .ok (.invokevirtual 79, 3) := by decide +kernel
theorem dX1_bestOwner_35 : decode cX1_bestOwner 35 = .ok (.istore 8, 2) := by decide +kernel
theorem dX1_bestOwner_37 : decode cX1_bestOwner 37 = .ok (.iload 8, 2) := by decide +kernel
theorem dX1_bestOwner_39 : decode cX1_bestOwner 39 = .ok (.iconst (-1), 1) := by decide +kernel
theorem dX1_bestOwner_40 : decode cX1_bestOwner 40 = .ok (.if_icmp .eq 82, 3) := by decide +kernel
theorem dX1_bestOwner_43 : decode cX1_bestOwner 43 = .ok (.aload_n 2, 1) := by decide +kernel
theorem dX1_bestOwner_44 : decode cX1_bestOwner 44 = .ok (.aload_n 1, 1) := by decide +kernel
theorem dX1_bestOwner_45 : decode cX1_bestOwner 45 = .ok (.iload 8, 2) := by decide +kernel
theorem dX1_bestOwner_47 : decode cX1_bestOwner 47 = .ok (.iload_n 3, 1) := by decide +kernel
theorem dX1_bestOwner_48 : decode cX1_bestOwner 48 = .ok (.invokevirtual 83, 3) := by decide +kernel
theorem dX1_bestOwner_51 : decode cX1_bestOwner 51 = .ok (.iaload, 1) := by decide +kernel
theorem dX1_bestOwner_52 : decode cX1_bestOwner 52 = .ok (.istore 9, 2) := by decide +kernel
theorem dX1_bestOwner_54 : decode cX1_bestOwner 54 = .ok (.aload_n 1, 1) := by decide +kernel
theorem dX1_bestOwner_55 : decode cX1_bestOwner 55 = .ok (.aload_n 2, 1) := by decide +kernel
theorem dX1_bestOwner_56 : decode cX1_bestOwner 56 = .ok (.iload_n 3, 1) := by decide +kernel
theorem dX1_bestOwner_57 : decode cX1_bestOwner 57 = .ok (.iload 9, 2) := by decide +kernel
theorem dX1_bestOwner_59 : decode cX1_bestOwner 59 = .ok (.invokestatic 75, 3) := by decide +kernel
theorem dX1_bestOwner_62 : decode cX1_bestOwner 62 = .ok (.istore 10, 2) := by decide +kernel
theorem dX1_bestOwner_64 : decode cX1_bestOwner 64 = .ok (.iload 10, 2) := by decide +kernel
theorem dX1_bestOwner_66 : decode cX1_bestOwner 66 = .ok (.iload 6, 2) := by decide +kernel
theorem dX1_bestOwner_68 : decode cX1_bestOwner 68 = .ok (.if_icmp .lt 24, 3) := by decide +kernel
theorem dX1_bestOwner_71 : decode cX1_bestOwner 71 = .ok (.iload 10, 2) := by decide +kernel
theorem dX1_bestOwner_73 : decode cX1_bestOwner 73 = .ok (.iload 6, 2) := by decide +kernel
theorem dX1_bestOwner_75 : decode cX1_bestOwner 75 = .ok (.if_icmp .ne 21, 3) := by decide +kernel
theorem dX1_bestOwner_78 : decode cX1_bestOwner 78 = .ok (.iload 5, 2) := by decide +kernel
theorem dX1_bestOwner_80 : decode cX1_bestOwner 80 = .ok (.iload 4, 2) := by decide +kernel
theorem dX1_bestOwner_82 : decode cX1_bestOwner 82 = .ok (.if_icmp .eq 14, 3) := by decide +kernel
theorem dX1_bestOwner_85 : decode cX1_bestOwner 85 = .ok (.iload 9, 2) := by decide +kernel
theorem dX1_bestOwner_87 : decode cX1_bestOwner 87 = .ok (.iload 5, 2) := by decide +kernel
theorem dX1_bestOwner_89 : decode cX1_bestOwner 89 = .ok (.if_icmp .ge 7, 3) := by decide +kernel
theorem dX1_bestOwner_92 : decode cX1_bestOwner 92 = .ok (.iconst 1, 1) := by decide +kernel
theorem dX1_bestOwner_93 : decode cX1_bestOwner 93 = .ok (.goto 4, 3) := by decide +kernel
theorem dX1_bestOwner_96 : decode cX1_bestOwner 96 = .ok (.iconst 0, 1) := by decide +kernel
theorem dX1_bestOwner_97 : decode cX1_bestOwner 97 = .ok (.istore 11, 2) := by decide +kernel
theorem dX1_bestOwner_99 : decode cX1_bestOwner 99 = .ok (.iload 11, 2) := by decide +kernel
theorem dX1_bestOwner_101 : decode cX1_bestOwner 101 = .ok (.ifCond .eq 21, 3) := by decide +kernel
theorem dX1_bestOwner_104 : decode cX1_bestOwner 104 = .ok (.aload_n 0, 1) := by decide +kernel
theorem dX1_bestOwner_105 : decode cX1_bestOwner 105 = .ok (.getfield 18, 3) := by decide +kernel
theorem dX1_bestOwner_108 : decode cX1_bestOwner 108 = .ok (.iload 9, 2) := by decide +kernel
theorem dX1_bestOwner_110 : decode cX1_bestOwner 110 = .ok (.baload, 1) := by decide +kernel
theorem dX1_bestOwner_111 : decode cX1_bestOwner 111 = .ok (.ifCond .ne 11, 3) := by decide +kernel
theorem dX1_bestOwner_114 : decode cX1_bestOwner 114 = .ok (.iload 9, 2) := by decide +kernel
theorem dX1_bestOwner_116 : decode cX1_bestOwner 116 = .ok (.istore 5, 2) := by decide +kernel
theorem dX1_bestOwner_118 : decode cX1_bestOwner 118 = .ok (.iload 10, 2) := by decide +kernel
theorem dX1_bestOwner_120 : decode cX1_bestOwner 120 = .ok (.istore 6, 2) := by decide +kernel
theorem dX1_bestOwner_122 : decode cX1_bestOwner 122 = .ok (.iinc 7 1, 3) := by decide +kernel
theorem dX1_bestOwner_125 : decode cX1_bestOwner 125 = .ok (.goto (-103), 3) := by decide +kernel
theorem dX1_bestOwner_128 : decode cX1_bestOwner 128 = .ok (.iload 5, 2) := by decide +kernel
theorem dX1_bestOwner_130 : decode cX1_bestOwner 130 = .ok (.ireturn, 1) := by decide +kernel
set_option maxRecDepth 20000 in
theorem ggX1_wallsWith_X2_beside : GoodIn wsX1_wallsWith wsX2_beside := goodIn_r _ [5, 6, 18, 19, 20, 21, 22, 23, 24] (by decide +kernel) (by decide +kernel)
set_option maxRecDepth 20000 in
theorem gX1_wallsWith_X2_beside : GoodIn wsX1_wallsWith (wsV RX1 79 RX2 yX2_beside wsX2_beside) := goodIn_app (goodIn_of _ (by decide +kernel)) ggX1_wallsWith_X2_beside
set_option maxRecDepth 20000 in
theorem ggX1_wallsWith_X2_otherEnd : GoodIn wsX1_wallsWith wsX2_otherEnd := goodIn_r _ [10, 11, 12, 18, 19, 20, 21, 22, 23, 24] (by decide +kernel) (by decide +kernel)
set_option maxRecDepth 20000 in
theorem gX1_wallsWith_X2_otherEnd : GoodIn wsX1_wallsWith (wsV RX1 83 RX2 yX2_otherEnd wsX2_otherEnd) := goodIn_app (goodIn_of _ (by decide +kernel)) ggX1_wallsWith_X2_otherEnd
set_option maxRecDepth 20000 in
theorem ggX1_wallsWith_X2_price : GoodIn wsX1_wallsWith wsX2_price := goodIn_r _ [16, 17, 18, 19, 20, 21, 22, 23, 24] (by decide +kernel) (by decide +kernel)
set_option maxRecDepth 20000 in
theorem gX1_wallsWith_X2_price : GoodIn wsX1_wallsWith (wsV RX1 48 RX2 yX2_price wsX2_price) := goodIn_app (goodIn_of _ (by decide +kernel)) ggX1_wallsWith_X2_price
theorem dX1_wallsWith_0 : decode cX1_wallsWith 0 = .ok (.iconst 0, 1) := by decide +kernel
theorem dX1_wallsWith_1 : decode cX1_wallsWith 1 = .ok (.istore 4, 2) := by decide +kernel
theorem dX1_wallsWith_3 : decode cX1_wallsWith 3 = .ok (.iconst 0, 1) := by decide +kernel
theorem dX1_wallsWith_4 : decode cX1_wallsWith 4 = .ok (.istore 5, 2) := by decide +kernel
theorem dX1_wallsWith_6 : decode cX1_wallsWith 6 = .ok (.iload 5, 2) := by decide +kernel
theorem dX1_wallsWith_8 : decode cX1_wallsWith 8 = .ok (.iconst 4, 1) := by decide +kernel
theorem dX1_wallsWith_9 : decode cX1_wallsWith 9 = .ok (.if_icmp .ge 48, 3) := by decide +kernel
theorem dX1_wallsWith_12 : decode cX1_wallsWith 12 = .ok (.aload_n 0, 1) := by decide +kernel
theorem dX1_wallsWith_13 : decode cX1_wallsWith 13 = .ok (.iload_n 2, 1) := by decide +kernel
theorem dX1_wallsWith_14 : decode cX1_wallsWith 14 = .ok (.iload 5, 2) := by decide +kernel
theorem dX1_wallsWith_16 : decode cX1_wallsWith 16 = .ok (.invokevirtual 79, 3) := by decide +kernel
theorem dX1_wallsWith_19 : decode cX1_wallsWith 19 = .ok (.istore 6, 2) := by decide +kernel
theorem dX1_wallsWith_21 : decode cX1_wallsWith 21 = .ok (.iload 6, 2) := by decide +kernel
theorem dX1_wallsWith_23 : decode cX1_wallsWith 23 = .ok (.iconst (-1), 1) := by decide +kernel
theorem dX1_wallsWith_24 : decode cX1_wallsWith 24 = .ok (.if_icmp .eq 27, 3) := by decide +kernel
theorem dX1_wallsWith_27 : decode cX1_wallsWith 27 = .ok (.aload_n 1, 1) := by decide +kernel
theorem dX1_wallsWith_28 : decode cX1_wallsWith 28 = .ok (.aload_n 0, 1) := by decide +kernel
theorem dX1_wallsWith_29 : decode cX1_wallsWith 29 = .ok (.iload 6, 2) := by decide +kernel
theorem dX1_wallsWith_31 : decode cX1_wallsWith 31 = .ok (.iload_n 2, 1) := by decide +kernel
theorem dX1_wallsWith_32 : decode cX1_wallsWith 32 = .ok (.invokevirtual 83, 3) := by decide +kernel
theorem dX1_wallsWith_35 : decode cX1_wallsWith 35 = .ok (.iaload, 1) := by decide +kernel
theorem dX1_wallsWith_36 : decode cX1_wallsWith 36 = .ok (.iload_n 3, 1) := by decide +kernel
theorem dX1_wallsWith_37 : decode cX1_wallsWith 37 = .ok (.if_icmp .eq 14, 3) := by decide +kernel
theorem dX1_wallsWith_40 : decode cX1_wallsWith 40 = .ok (.iload 4, 2) := by decide +kernel
theorem dX1_wallsWith_42 : decode cX1_wallsWith 42 = .ok (.aload_n 0, 1) := by decide +kernel
theorem dX1_wallsWith_43 : decode cX1_wallsWith 43 = .ok (.iload 6, 2) := by decide +kernel
theorem dX1_wallsWith_45 : decode cX1_wallsWith 45 = .ok (.invokevirtual 48, 3) := by decide +kernel
theorem dX1_wallsWith_48 : decode cX1_wallsWith 48 = .ok (.iadd, 1) := by decide +kernel
theorem dX1_wallsWith_49 : decode cX1_wallsWith 49 = .ok (.istore 4, 2) := by decide +kernel
theorem dX1_wallsWith_51 : decode cX1_wallsWith 51 = .ok (.iinc 5 1, 3) := by decide +kernel
theorem dX1_wallsWith_54 : decode cX1_wallsWith 54 = .ok (.goto (-48), 3) := by decide +kernel
theorem dX1_wallsWith_57 : decode cX1_wallsWith 57 = .ok (.iload 4, 2) := by decide +kernel
theorem dX1_wallsWith_59 : decode cX1_wallsWith 59 = .ok (.ireturn, 1) := by decide +kernel
theorem dX1_size_0 : decode cX1_size 0 = .ok (.iconst 0, 1) := by decide +kernel
theorem dX1_size_1 : decode cX1_size 1 = .ok (.istore_n 2, 1) := by decide +kernel
theorem dX1_size_2 : decode cX1_size 2 = .ok (.iconst 0, 1) := by decide +kernel
theorem dX1_size_3 : decode cX1_size 3 = .ok (.istore_n 3, 1) := by decide +kernel
theorem dX1_size_4 : decode cX1_size 4 = .ok (.iload_n 3, 1) := by decide +kernel
theorem dX1_size_5 : decode cX1_size 5 = .ok (.bipush 36, 2) := by decide +kernel
theorem dX1_size_7 : decode cX1_size 7 = .ok (.if_icmp .ge 22, 3) := by decide +kernel
theorem dX1_size_10 : decode cX1_size 10 = .ok (.aload_n 0, 1) := by decide +kernel
theorem dX1_size_11 : decode cX1_size 11 = .ok (.getfield 9, 3) := by decide +kernel
theorem dX1_size_14 : decode cX1_size 14 = .ok (.iload_n 3, 1) := by decide +kernel
theorem dX1_size_15 : decode cX1_size 15 = .ok (.iaload, 1) := by decide +kernel
theorem dX1_size_16 : decode cX1_size 16 = .ok (.iload_n 1, 1) := by decide +kernel
theorem dX1_size_17 : decode cX1_size 17 = .ok (.if_icmp .ne 6, 3) := by decide +kernel
theorem dX1_size_20 : decode cX1_size 20 = .ok (.iinc 2 1, 3) := by decide +kernel
theorem dX1_size_23 : decode cX1_size 23 = .ok (.iinc 3 1, 3) := by decide +kernel
theorem dX1_size_26 : decode cX1_size 26 = .ok (.goto (-22), 3) := by decide +kernel
theorem dX1_size_29 : decode cX1_size 29 = .ok (.iload_n 2, 1) := by decide +kernel
theorem dX1_size_30 : decode cX1_size 30 = .ok (.ireturn, 1) := by decide +kernel
set_option maxRecDepth 20000 in
theorem ggX1_pieces_X1_seePiece : GoodIn wsX1_pieces wsX1_seePiece := goodIn_r _ [7, 1, 8, 2, 9, 10, 11, 12, 13, 14, 15, 16, 17, 18, 19, 20, 21, 22, 23, 24, 25, 26, 27, 28, 29, 30, 31, 32, 33, 34] (by decide +kernel) (by decide +kernel)
set_option maxRecDepth 20000 in
theorem gX1_pieces_X1_seePiece : GoodIn wsX1_pieces (wsV RX1 86 RX1 yX1_seePiece wsX1_seePiece) := goodIn_app (goodIn_of _ (by decide +kernel)) ggX1_pieces_X1_seePiece
theorem dX1_pieces_0 : decode cX1_pieces 0 = .ok (.iconst 0, 1) := by decide +kernel
theorem dX1_pieces_1 : decode cX1_pieces 1 = .ok (.istore_n 3, 1) := by decide +kernel
theorem dX1_pieces_2 : decode cX1_pieces 2 = .ok (.iload_n 3, 1) := by decide +kernel
theorem dX1_pieces_3 : decode cX1_pieces 3 = .ok (.bipush 36, 2) := by decide +kernel
theorem dX1_pieces_5 : decode cX1_pieces 5 = .ok (.if_icmp .ge 16, 3) := by decide +kernel
theorem dX1_pieces_8 : decode cX1_pieces 8 = .ok (.aload_n 0, 1) := by decide +kernel
theorem dX1_pieces_9 : decode cX1_pieces 9 = .ok (.getfield 22, 3) := by decide +kernel
theorem dX1_pieces_12 : decode cX1_pieces 12 = .ok (.iload_n 3, 1) := by decide +kernel
theorem dX1_pieces_13 : decode cX1_pieces 13 = .ok (.iconst 0, 1) := by decide +kernel
theorem dX1_pieces_14 : decode cX1_pieces 14 = .ok (.bastore, 1) := by decide +kernel
theorem dX1_pieces_15 : decode cX1_pieces 15 = .ok (.iinc 3 1, 3) := by decide +kernel
theorem dX1_pieces_18 : decode cX1_pieces 18 = .ok (.goto (-16), 3) := by decide +kernel
theorem dX1_pieces_21 : decode cX1_pieces 21 = .ok (.iconst 0, 1) := by decide +kernel
theorem dX1_pieces_22 : decode cX1_pieces 22 = .ok (.istore_n 3, 1) := by decide +kernel
theorem dX1_pieces_23 : decode cX1_pieces 23 = .ok (.iconst 0, 1) := by decide +kernel
theorem dX1_pieces_24 : decode cX1_pieces 24 = .ok (.istore 4, 2) := by decide +kernel
theorem dX1_pieces_26 : decode cX1_pieces 26 = .ok (.iload 4, 2) := by decide +kernel
theorem dX1_pieces_28 : decode cX1_pieces 28 = .ok (.bipush 36, 2) := by decide +kernel
theorem dX1_pieces_30 : decode cX1_pieces 30 = .ok (.if_icmp .ge 40, 3) := by decide +kernel
theorem dX1_pieces_33 : decode cX1_pieces 33 = .ok (.aload_n 0, 1) := by decide +kernel
theorem dX1_pieces_34 : decode cX1_pieces 34 = .ok (.getfield 9, 3) := by decide +kernel
theorem dX1_pieces_37 : decode cX1_pieces 37 = .ok (.iload 4, 2) := by decide +kernel
theorem dX1_pieces_39 : decode cX1_pieces 39 = .ok (.iaload, 1) := by decide +kernel
theorem dX1_pieces_40 : decode cX1_pieces 40 = .ok (.iload_n 2, 1) := by decide +kernel
theorem dX1_pieces_41 : decode cX1_pieces 41 = .ok (.if_icmp .ne 23, 3) := by decide +kernel
theorem dX1_pieces_44 : decode cX1_pieces 44 = .ok (.aload_n 0, 1) := by decide +kernel
theorem dX1_pieces_45 : decode cX1_pieces 45 = .ok (.getfield 22, 3) := by decide +kernel
theorem dX1_pieces_48 : decode cX1_pieces 48 = .ok (.iload 4, 2) := by decide +kernel
theorem dX1_pieces_50 : decode cX1_pieces 50 = .ok (.baload, 1) := by decide +kernel
theorem dX1_pieces_51 : decode cX1_pieces 51 = .ok (.ifCond .ne 13, 3) := by decide +kernel
theorem dX1_pieces_54 : decode cX1_pieces 54 = .ok (.iinc 3 1, 3) := by decide +kernel
theorem dX1_pieces_57 : decode cX1_pieces 57 = .ok (.aload_n 0, 1) := by decide +kernel
theorem dX1_pieces_58 : decode cX1_pieces 58 = .ok (.aload_n 1, 1) := by decide +kernel
theorem dX1_pieces_59 : decode cX1_pieces 59 = .ok (.iload 4, 2) := by decide +kernel
theorem dX1_pieces_61 : decode cX1_pieces 61 = .ok (.invokevirtual 86, 3) := by decide +kernel
theorem dX1_pieces_64 : decode cX1_pieces 64 = .ok (.iinc 4 1, 3) := by decide +kernel
theorem dX1_pieces_67 : decode cX1_pieces 67 = .ok (.goto (-41), 3) := by decide +kernel
theorem dX1_pieces_70 : decode cX1_pieces 70 = .ok (.iload_n 3, 1) := by decide +kernel
theorem dX1_pieces_71 : decode cX1_pieces 71 = .ok (.ireturn, 1) := by decide +kernel
set_option maxRecDepth 20000 in
theorem ggX1_seePiece_X2_beside : GoodIn wsX1_seePiece wsX2_beside := goodIn_r _ [8, 9, 23, 24, 25, 26, 27, 28, 29] (by decide +kernel) (by decide +kernel)
set_option maxRecDepth 20000 in
theorem gX1_seePiece_X2_beside : GoodIn wsX1_seePiece (wsV RX1 79 RX2 yX2_beside wsX2_beside) := goodIn_app (goodIn_of _ (by decide +kernel)) ggX1_seePiece_X2_beside
set_option maxRecDepth 20000 in
theorem ggX1_seePiece_X2_otherEnd : GoodIn wsX1_seePiece wsX2_otherEnd := goodIn_r _ [13, 14, 15, 23, 24, 25, 26, 27, 28, 29] (by decide +kernel) (by decide +kernel)
set_option maxRecDepth 20000 in
theorem gX1_seePiece_X2_otherEnd : GoodIn wsX1_seePiece (wsV RX1 83 RX2 yX2_otherEnd wsX2_otherEnd) := goodIn_app (goodIn_of _ (by decide +kernel)) ggX1_seePiece_X2_otherEnd
theorem dX1_seePiece_0 : decode cX1_seePiece 0 = .ok (.aload_n 0, 1) := by decide +kernel
theorem dX1_seePiece_1 : decode cX1_seePiece 1 = .ok (.getfield 22, 3) := by decide +kernel
theorem dX1_seePiece_4 : decode cX1_seePiece 4 = .ok (.iload_n 2, 1) := by decide +kernel
theorem dX1_seePiece_5 : decode cX1_seePiece 5 = .ok (.iconst 1, 1) := by decide +kernel
theorem dX1_seePiece_6 : decode cX1_seePiece 6 = .ok (.bastore, 1) := by decide +kernel
theorem dX1_seePiece_7 : decode cX1_seePiece 7 = .ok (.aload_n 0, 1) := by decide +kernel
theorem dX1_seePiece_8 : decode cX1_seePiece 8 = .ok (.getfield 25, 3) := by decide +kernel
theorem dX1_seePiece_11 : decode cX1_seePiece 11 = .ok (.iconst 0, 1) := by decide +kernel
theorem dX1_seePiece_12 : decode cX1_seePiece 12 = .ok (.iload_n 2, 1) := by decide +kernel
theorem dX1_seePiece_13 : decode cX1_seePiece 13 = .ok (.iastore, 1) := by decide +kernel
theorem dX1_seePiece_14 : decode cX1_seePiece 14 = .ok (.iconst 1, 1) := by decide +kernel
theorem dX1_seePiece_15 : decode cX1_seePiece 15 = .ok (.istore_n 3, 1) := by decide +kernel
theorem dX1_seePiece_16 : decode cX1_seePiece 16 = .ok (.iconst 0, 1) := by decide +kernel
theorem dX1_seePiece_17 : decode cX1_seePiece 17 = .ok (.istore 4, 2) := by decide +kernel
theorem dX1_seePiece_19 : decode cX1_seePiece 19 = .ok (.iload 4, 2) := by decide +kernel
theorem dX1_seePiece_21 : decode cX1_seePiece 21 = .ok (.bipush 36, 2) := by decide +kernel
theorem dX1_seePiece_23 : decode cX1_seePiece 23 = .ok (.if_icmp .ge 116, 3) := by decide +kernel
theorem dX1_seePiece_26 : decode cX1_seePiece 26 = .ok (.iload 4, 2) := by decide +kernel
theorem dX1_seePiece_28 : decode cX1_seePiece 28 = .ok (.iload_n 3, 1) := by decide +kernel
theorem dX1_seePiece_29 : decode cX1_seePiece 29 = .ok (.if_icmp .ge 110, 3) := by decide +kernel
theorem dX1_seePiece_32 : decode cX1_seePiece 32 = .ok (.aload_n 0, 1) := by decide +kernel
theorem dX1_seePiece_33 : decode cX1_seePiece 33 = .ok (.getfield 25, 3) := by decide +kernel
theorem dX1_seePiece_36 : decode cX1_seePiece 36 = .ok (.iload 4, 2) := by decide +kernel
theorem dX1_seePiece_38 : decode cX1_seePiece 38 = .ok (.iaload, 1) := by decide +kernel
theorem dX1_seePiece_39 : decode cX1_seePiece 39 = .ok (.istore 5, 2) := by decide +kernel
theorem dX1_seePiece_41 : decode cX1_seePiece 41 = .ok (.iconst 0, 1) := by decide +kernel
theorem dX1_seePiece_42 : decode cX1_seePiece 42 = .ok (.istore 6, 2) := by decide +kernel
theorem dX1_seePiece_44 : decode cX1_seePiece 44 = .ok (.iload 6, 2) := by decide +kernel
theorem dX1_seePiece_46 : decode cX1_seePiece 46 = .ok (.iconst 4, 1) := by decide +kernel
theorem dX1_seePiece_47 : decode cX1_seePiece 47 = .ok (.if_icmp .ge 86, 3) := by decide +kernel
theorem dX1_seePiece_50 : decode cX1_seePiece 50 = .ok (.aload_n 1, 1) := by decide +kernel
theorem dX1_seePiece_51 : decode cX1_seePiece 51 = .ok (.iload 5, 2) := by decide +kernel
theorem dX1_seePiece_53 : decode cX1_seePiece 53 = .ok (.iload 6, 2) := by decide +kernel
theorem dX1_seePiece_55 : decode cX1_seePiece 55 = .ok (.invokevirtual 79, 3) := by decide +kernel
theorem dX1_seePiece_58 : decode cX1_seePiece 58 = .ok (.istore 7, 2) := by decide +kernel
theorem dX1_seePiece_60 : decode cX1_seePiece 60 = .ok (.iload 7, 2) := by decide +kernel
theorem dX1_seePiece_62 : decode cX1_seePiece 62 = .ok (.iconst (-1), 1) := by decide +kernel
theorem dX1_seePiece_63 : decode cX1_seePiece 63 = .ok (.if_icmp .eq 64, 3) := by decide +kernel
theorem dX1_seePiece_66 : decode cX1_seePiece 66 = .ok (.aload_n 1, 1) := by decide +kernel
theorem dX1_seePiece_67 : decode cX1_seePiece 67 = .ok (.iload 7, 2) := by decide +kernel
theorem dX1_seePiece_69 : decode cX1_seePiece 69 = .ok (.iload 5, 2) := by decide +kernel
theorem dX1_seePiece_71 : decode cX1_seePiece 71 = .ok (.invokevirtual 83, 3) := by decide +kernel
theorem dX1_seePiece_74 : decode cX1_seePiece 74 = .ok (.istore 8, 2) := by decide +kernel
theorem dX1_seePiece_76 : decode cX1_seePiece 76 = .ok (.aload_n 0, 1) := by decide +kernel
theorem dX1_seePiece_77 : decode cX1_seePiece 77 = .ok (.getfield 9, 3) := by decide +kernel
theorem dX1_seePiece_80 : decode cX1_seePiece 80 = .ok (.iload 8, 2) := by decide +kernel
theorem dX1_seePiece_82 : decode cX1_seePiece 82 = .ok (.iaload, 1) := by decide +kernel
theorem dX1_seePiece_83 : decode cX1_seePiece 83 = .ok (.aload_n 0, 1) := by decide +kernel
theorem dX1_seePiece_84 : decode cX1_seePiece 84 = .ok (.getfield 9, 3) := by decide +kernel
theorem dX1_seePiece_87 : decode cX1_seePiece 87 = .ok (.iload_n 2, 1) := by decide +kernel
theorem dX1_seePiece_88 : decode cX1_seePiece 88 = .ok (.iaload, 1) := by decide +kernel
theorem dX1_seePiece_89 : decode cX1_seePiece 89 = .ok (.if_icmp .ne 38, 3) := by decide +kernel
theorem dX1_seePiece_92 : decode cX1_seePiece 92 = .ok (.aload_n 0, 1) := by decide +kernel
theorem dX1_seePiece_93 : decode cX1_seePiece 93 = .ok (.getfield 22, 3) := by decide +kernel
theorem dX1_seePiece_96 : decode cX1_seePiece 96 = .ok (.iload 8, 2) := by decide +kernel
theorem dX1_seePiece_98 : decode cX1_seePiece 98 = .ok (.baload, 1) := by decide +kernel
theorem dX1_seePiece_99 : decode cX1_seePiece 99 = .ok (.ifCond .ne 28, 3) := by decide +kernel
theorem dX1_seePiece_102 : decode cX1_seePiece 102 = .ok (.iload_n 3, 1) := by decide +kernel
theorem dX1_seePiece_103 : decode cX1_seePiece 103 = .ok (.bipush 36, 2) := by decide +kernel
theorem dX1_seePiece_105 : decode cX1_seePiece 105 = .ok (.if_icmp .ge 22, 3) := by decide +kernel
theorem dX1_seePiece_108 : decode cX1_seePiece 108 = .ok (.aload_n 0, 1) := by decide +kernel
theorem dX1_seePiece_109 : decode cX1_seePiece 109 = .ok (.getfield 22, 3) := by decide +kernel
theorem dX1_seePiece_112 : decode cX1_seePiece 112 = .ok (.iload 8, 2) := by decide +kernel
theorem dX1_seePiece_114 : decode cX1_seePiece 114 = .ok (.iconst 1, 1) := by decide +kernel
theorem dX1_seePiece_115 : decode cX1_seePiece 115 = .ok (.bastore, 1) := by decide +kernel
theorem dX1_seePiece_116 : decode cX1_seePiece 116 = .ok (.aload_n 0, 1) := by decide +kernel
theorem dX1_seePiece_117 : decode cX1_seePiece 117 = .ok (.getfield 25, 3) := by decide +kernel
theorem dX1_seePiece_120 : decode cX1_seePiece 120 = .ok (.iload_n 3, 1) := by decide +kernel
theorem dX1_seePiece_121 : decode cX1_seePiece 121 = .ok (.iload 8, 2) := by decide +kernel
theorem dX1_seePiece_123 : decode cX1_seePiece 123 = .ok (.iastore, 1) := by decide +kernel
theorem dX1_seePiece_124 : decode cX1_seePiece 124 = .ok (.iinc 3 1, 3) := by decide +kernel
theorem dX1_seePiece_127 : decode cX1_seePiece 127 = .ok (.iinc 6 1, 3) := by decide +kernel
theorem dX1_seePiece_130 : decode cX1_seePiece 130 = .ok (.goto (-86), 3) := by decide +kernel
theorem dX1_seePiece_133 : decode cX1_seePiece 133 = .ok (.iinc 4 1, 3) := by decide +kernel
theorem dX1_seePiece_136 : decode cX1_seePiece 136 = .ok (.goto (-117), 3) := by decide +kernel
theorem dX1_seePiece_139 : decode cX1_seePiece 139 = .ok (.return_, 1) := by decide +kernel
set_option maxRecDepth 20000 in
theorem ggX1_wallsAround_X1_wallsBetween : GoodIn wsX1_wallsAround wsX1_wallsBetween := goodIn_r _ [5, 6, 7, 8, 4, 9, 10, 11, 12, 13, 14, 15, 16, 17, 18, 19, 20, 21, 22, 23, 24, 25, 26, 27, 28, 29, 30, 31, 32, 33, 34, 35, 36, 37, 38, 39, 40] (by decide +kernel) (by decide +kernel)
set_option maxRecDepth 20000 in
theorem gX1_wallsAround_X1_wallsBetween : GoodIn wsX1_wallsAround (wsV RX1 90 RX1 yX1_wallsBetween wsX1_wallsBetween) := goodIn_app (goodIn_of _ (by decide +kernel)) ggX1_wallsAround_X1_wallsBetween
theorem dX1_wallsAround_0 : decode cX1_wallsAround 0 = .ok (.iconst 0, 1) := by decide +kernel
theorem dX1_wallsAround_1 : decode cX1_wallsAround 1 = .ok (.istore_n 3, 1) := by decide +kernel
theorem dX1_wallsAround_2 : decode cX1_wallsAround 2 = .ok (.iconst 0, 1) := by decide +kernel
theorem dX1_wallsAround_3 : decode cX1_wallsAround 3 = .ok (.istore 4, 2) := by decide +kernel
theorem dX1_wallsAround_5 : decode cX1_wallsAround 5 = .ok (.iload 4, 2) := by decide +kernel
theorem dX1_wallsAround_7 : decode cX1_wallsAround 7 = .ok (.bipush 8, 2) := by decide +kernel
theorem dX1_wallsAround_9 : decode cX1_wallsAround 9 = .ok (.if_icmp .ge 26, 3) := by decide +kernel
theorem dX1_wallsAround_12 : decode cX1_wallsAround 12 = .ok (.iload 4, 2) := by decide +kernel
theorem dX1_wallsAround_14 : decode cX1_wallsAround 14 = .ok (.iload_n 2, 1) := by decide +kernel
theorem dX1_wallsAround_15 : decode cX1_wallsAround 15 = .ok (.if_icmp .eq 14, 3) := by decide +kernel
theorem dX1_wallsAround_18 : decode cX1_wallsAround 18 = .ok (.iload_n 3, 1) := by decide +kernel
theorem dX1_wallsAround_19 : decode cX1_wallsAround 19 = .ok (.aload_n 0, 1) := by decide +kernel
theorem dX1_wallsAround_20 : decode cX1_wallsAround 20 = .ok (.aload_n 1, 1) := by decide +kernel
theorem dX1_wallsAround_21 : decode cX1_wallsAround 21 = .ok (.iload_n 2, 1) := by decide +kernel
theorem dX1_wallsAround_22 : decode cX1_wallsAround 22 = .ok (.iload 4, 2) := by decide +kernel
theorem dX1_wallsAround_24 : decode cX1_wallsAround 24 = .ok (.invokevirtual 90, 3) := by decide +kernel
theorem dX1_wallsAround_27 : decode cX1_wallsAround 27 = .ok (.iadd, 1) := by decide +kernel
theorem dX1_wallsAround_28 : decode cX1_wallsAround 28 = .ok (.istore_n 3, 1) := by decide +kernel
theorem dX1_wallsAround_29 : decode cX1_wallsAround 29 = .ok (.iinc 4 1, 3) := by decide +kernel
theorem dX1_wallsAround_32 : decode cX1_wallsAround 32 = .ok (.goto (-27), 3) := by decide +kernel
theorem dX1_wallsAround_35 : decode cX1_wallsAround 35 = .ok (.iload_n 3, 1) := by decide +kernel
theorem dX1_wallsAround_36 : decode cX1_wallsAround 36 = .ok (.ireturn, 1) := by decide +kernel
set_option maxRecDepth 20000 in
theorem ggX1_wallsBetween_X1_isBetween : GoodIn wsX1_wallsBetween wsX1_isBetween := goodIn_r _ [5, 6, 7, 8, 9, 10, 11, 12, 13, 14, 15, 16, 17, 23, 24, 25, 26, 27, 28, 29, 30, 31, 32, 33, 34, 35, 36] (by decide +kernel) (by decide +kernel)
set_option maxRecDepth 20000 in
theorem gX1_wallsBetween_X1_isBetween : GoodIn wsX1_wallsBetween (wsV RX1 94 RX1 yX1_isBetween wsX1_isBetween) := goodIn_app (goodIn_of _ (by decide +kernel)) ggX1_wallsBetween_X1_isBetween
set_option maxRecDepth 20000 in
theorem ggX1_wallsBetween_X2_price : GoodIn wsX1_wallsBetween wsX2_price := goodIn_r _ [21, 22, 30, 31, 32, 33, 34, 35, 36] (by decide +kernel) (by decide +kernel)
set_option maxRecDepth 20000 in
theorem gX1_wallsBetween_X2_price : GoodIn wsX1_wallsBetween (wsV RX1 48 RX2 yX2_price wsX2_price) := goodIn_app (goodIn_of _ (by decide +kernel)) ggX1_wallsBetween_X2_price
theorem dX1_wallsBetween_0 : decode cX1_wallsBetween 0 = .ok (.iconst 0, 1) := by decide +kernel
theorem dX1_wallsBetween_1 : decode cX1_wallsBetween 1 = .ok (.istore 4, 2) := by decide +kernel
theorem dX1_wallsBetween_3 : decode cX1_wallsBetween 3 = .ok (.iconst 0, 1) := by decide +kernel
theorem dX1_wallsBetween_4 : decode cX1_wallsBetween 4 = .ok (.istore 5, 2) := by decide +kernel
theorem dX1_wallsBetween_6 : decode cX1_wallsBetween 6 = .ok (.iload 5, 2) := by decide +kernel
theorem dX1_wallsBetween_8 : decode cX1_wallsBetween 8 = .ok (.bipush 60, 2) := by decide +kernel
theorem dX1_wallsBetween_10 : decode cX1_wallsBetween 10 = .ok (.if_icmp .ge 32, 3) := by decide +kernel
theorem dX1_wallsBetween_13 : decode cX1_wallsBetween 13 = .ok (.aload_n 0, 1) := by decide +kernel
theorem dX1_wallsBetween_14 : decode cX1_wallsBetween 14 = .ok (.aload_n 1, 1) := by decide +kernel
theorem dX1_wallsBetween_15 : decode cX1_wallsBetween 15 = .ok (.iload 5, 2) := by decide +kernel
theorem dX1_wallsBetween_17 : decode cX1_wallsBetween 17 = .ok (.iload_n 2, 1) := by decide +kernel
theorem dX1_wallsBetween_18 : decode cX1_wallsBetween 18 = .ok (.iload_n 3, 1) := by decide +kernel
theorem dX1_wallsBetween_19 : decode cX1_wallsBetween 19 = .ok (.invokevirtual 94, 3) := by decide +kernel
theorem dX1_wallsBetween_22 : decode cX1_wallsBetween 22 = .ok (.ifCond .eq 14, 3) := by decide +kernel
theorem dX1_wallsBetween_25 : decode cX1_wallsBetween 25 = .ok (.iload 4, 2) := by decide +kernel
theorem dX1_wallsBetween_27 : decode cX1_wallsBetween 27 = .ok (.aload_n 1, 1) := by decide +kernel
theorem dX1_wallsBetween_28 : decode cX1_wallsBetween 28 = .ok (.iload 5, 2) := by decide +kernel
theorem dX1_wallsBetween_30 : decode cX1_wallsBetween 30 = .ok (.invokevirtual 48, 3) := by decide +kernel
theorem dX1_wallsBetween_33 : decode cX1_wallsBetween 33 = .ok (.iadd, 1) := by decide +kernel
theorem dX1_wallsBetween_34 : decode cX1_wallsBetween 34 = .ok (.istore 4, 2) := by decide +kernel
theorem dX1_wallsBetween_36 : decode cX1_wallsBetween 36 = .ok (.iinc 5 1, 3) := by decide +kernel
theorem dX1_wallsBetween_39 : decode cX1_wallsBetween 39 = .ok (.goto (-33), 3) := by decide +kernel
theorem dX1_wallsBetween_42 : decode cX1_wallsBetween 42 = .ok (.iload 4, 2) := by decide +kernel
theorem dX1_wallsBetween_44 : decode cX1_wallsBetween 44 = .ok (.ireturn, 1) := by decide +kernel
set_option maxRecDepth 20000 in
theorem ggX1_isBetween_X2_low : GoodIn wsX1_isBetween wsX2_low := goodIn_r _ [6, 7, 20, 21, 22, 23, 24, 25, 26] (by decide +kernel) (by decide +kernel)
set_option maxRecDepth 20000 in
theorem gX1_isBetween_X2_low : GoodIn wsX1_isBetween (wsV RX1 39 RX2 yX2_low wsX2_low) := goodIn_app (goodIn_of _ (by decide +kernel)) ggX1_isBetween_X2_low
set_option maxRecDepth 20000 in
theorem ggX1_isBetween_X2_high : GoodIn wsX1_isBetween wsX2_high := goodIn_r _ [11, 12, 20, 21, 22, 23, 24, 25, 26] (by decide +kernel) (by decide +kernel)
set_option maxRecDepth 20000 in
theorem gX1_isBetween_X2_high : GoodIn wsX1_isBetween (wsV RX1 45 RX2 yX2_high wsX2_high) := goodIn_app (goodIn_of _ (by decide +kernel)) ggX1_isBetween_X2_high
theorem dX1_isBetween_0 : decode cX1_isBetween 0 = .ok (.aload_n 0, 1) := by decide +kernel
theorem dX1_isBetween_1 : decode cX1_isBetween 1 = .ok (.getfield 9, 3) := by decide +kernel
theorem dX1_isBetween_4 : decode cX1_isBetween 4 = .ok (.aload_n 1, 1) := by decide +kernel
theorem dX1_isBetween_5 : decode cX1_isBetween 5 = .ok (.iload_n 2, 1) := by decide +kernel
theorem dX1_isBetween_6 : decode cX1_isBetween 6 = .ok (.invokevirtual 39, 3) := by decide +kernel
theorem dX1_isBetween_9 : decode cX1_isBetween 9 = .ok (.iaload, 1) := by decide +kernel
theorem dX1_isBetween_10 : decode cX1_isBetween 10 = .ok (.istore 5, 2) := by decide +kernel
theorem dX1_isBetween_12 : decode cX1_isBetween 12 = .ok (.aload_n 0, 1) := by decide +kernel
theorem dX1_isBetween_13 : decode cX1_isBetween 13 = .ok (.getfield 9, 3) := by decide +kernel
theorem dX1_isBetween_16 : decode cX1_isBetween 16 = .ok (.aload_n 1, 1) := by decide +kernel
theorem dX1_isBetween_17 : decode cX1_isBetween 17 = .ok (.iload_n 2, 1) := by decide +kernel
theorem dX1_isBetween_18 : decode cX1_isBetween 18 = .ok (.invokevirtual 45, 3) := by decide +kernel
theorem dX1_isBetween_21 : decode cX1_isBetween 21 = .ok (.iaload, 1) := by decide +kernel
theorem dX1_isBetween_22 : decode cX1_isBetween 22 = .ok (.istore 6, 2) := by decide +kernel
theorem dX1_isBetween_24 : decode cX1_isBetween 24 = .ok (.iload 5, 2) := by decide +kernel
theorem dX1_isBetween_26 : decode cX1_isBetween 26 = .ok (.iload_n 3, 1) := by decide +kernel
theorem dX1_isBetween_27 : decode cX1_isBetween 27 = .ok (.if_icmp .ne 10, 3) := by decide +kernel
theorem dX1_isBetween_30 : decode cX1_isBetween 30 = .ok (.iload 6, 2) := by decide +kernel
theorem dX1_isBetween_32 : decode cX1_isBetween 32 = .ok (.iload 4, 2) := by decide +kernel
theorem dX1_isBetween_34 : decode cX1_isBetween 34 = .ok (.if_icmp .eq 16, 3) := by decide +kernel
theorem dX1_isBetween_37 : decode cX1_isBetween 37 = .ok (.iload 5, 2) := by decide +kernel
theorem dX1_isBetween_39 : decode cX1_isBetween 39 = .ok (.iload 4, 2) := by decide +kernel
theorem dX1_isBetween_41 : decode cX1_isBetween 41 = .ok (.if_icmp .ne 13, 3) := by decide +kernel
theorem dX1_isBetween_44 : decode cX1_isBetween 44 = .ok (.iload 6, 2) := by decide +kernel
theorem dX1_isBetween_46 : decode cX1_isBetween 46 = .ok (.iload_n 3, 1) := by decide +kernel
theorem dX1_isBetween_47 : decode cX1_isBetween 47 = .ok (.if_icmp .ne 7, 3) := by decide +kernel
theorem dX1_isBetween_50 : decode cX1_isBetween 50 = .ok (.iconst 1, 1) := by decide +kernel
theorem dX1_isBetween_51 : decode cX1_isBetween 51 = .ok (.goto 4, 3) := by decide +kernel
theorem dX1_isBetween_54 : decode cX1_isBetween 54 = .ok (.iconst 0, 1) := by decide +kernel
theorem dX1_isBetween_55 : decode cX1_isBetween 55 = .ok (.ireturn, 1) := by decide +kernel
set_option maxRecDepth 20000 in
theorem ggX1_neighbours_X2_low : GoodIn wsX1_neighbours wsX2_low := goodIn_r _ [6, 7, 27, 28, 29, 30, 31, 32, 33] (by decide +kernel) (by decide +kernel)
set_option maxRecDepth 20000 in
theorem gX1_neighbours_X2_low : GoodIn wsX1_neighbours (wsV RX1 39 RX2 yX2_low wsX2_low) := goodIn_app (goodIn_of _ (by decide +kernel)) ggX1_neighbours_X2_low
set_option maxRecDepth 20000 in
theorem ggX1_neighbours_X2_high : GoodIn wsX1_neighbours wsX2_high := goodIn_r _ [11, 12, 27, 28, 29, 30, 31, 32, 33] (by decide +kernel) (by decide +kernel)
set_option maxRecDepth 20000 in
theorem gX1_neighbours_X2_high : GoodIn wsX1_neighbours (wsV RX1 45 RX2 yX2_high wsX2_high) := goodIn_app (goodIn_of _ (by decide +kernel)) ggX1_neighbours_X2_high
set_option maxRecDepth 20000 in
theorem ggX1_neighbours_J6_bitCount_0f7a4 : GoodIn wsX1_neighbours wsJ6_bitCount_0f7a4 := goodIn_r _ [16, 17, 18, 19] (by decide +kernel) (by decide +kernel)
set_option maxRecDepth 20000 in
theorem gX1_neighbours_J6_bitCount_0f7a4 : GoodIn wsX1_neighbours (va_wsS RX1 98 yJ6_bitCount_0f7a4 wsJ6_bitCount_0f7a4) := goodIn_app (goodIn_of _ (by decide +kernel)) ggX1_neighbours_J6_bitCount_0f7a4
theorem dX1_neighbours_0 : decode cX1_neighbours 0 = .ok (.iconst 0, 1) := by decide +kernel
theorem dX1_neighbours_1 : decode cX1_neighbours 1 = .ok (.istore_n 3, 1) := by decide +kernel
theorem dX1_neighbours_2 : decode cX1_neighbours 2 = .ok (.iconst 0, 1) := by decide +kernel
theorem dX1_neighbours_3 : decode cX1_neighbours 3 = .ok (.istore 4, 2) := by decide +kernel
theorem dX1_neighbours_5 : decode cX1_neighbours 5 = .ok (.iload 4, 2) := by decide +kernel
theorem dX1_neighbours_7 : decode cX1_neighbours 7 = .ok (.bipush 60, 2) := by decide +kernel
theorem dX1_neighbours_9 : decode cX1_neighbours 9 = .ok (.if_icmp .ge 61, 3) := by decide +kernel
theorem dX1_neighbours_12 : decode cX1_neighbours 12 = .ok (.aload_n 0, 1) := by decide +kernel
theorem dX1_neighbours_13 : decode cX1_neighbours 13 = .ok (.getfield 9, 3) := by decide +kernel
theorem dX1_neighbours_16 : decode cX1_neighbours 16 = .ok (.aload_n 1, 1) := by decide +kernel
theorem dX1_neighbours_17 : decode cX1_neighbours 17 = .ok (.iload 4, 2) := by decide +kernel
theorem dX1_neighbours_19 : decode cX1_neighbours 19 = .ok (.invokevirtual 39, 3) := by decide +kernel
theorem dX1_neighbours_22 : decode cX1_neighbours 22 = .ok (.iaload, 1) := by decide +kernel
theorem dX1_neighbours_23 : decode cX1_neighbours 23 = .ok (.istore 5, 2) := by decide +kernel
theorem dX1_neighbours_25 : decode cX1_neighbours 25 = .ok (.aload_n 0, 1) := by decide +kernel
theorem dX1_neighbours_26 : decode cX1_neighbours 26 = .ok (.getfield 9, 3) := by decide +kernel
theorem dX1_neighbours_29 : decode cX1_neighbours 29 = .ok (.aload_n 1, 1) := by decide +kernel
theorem dX1_neighbours_30 : decode cX1_neighbours 30 = .ok (.iload 4, 2) := by decide +kernel
theorem dX1_neighbours_32 : decode cX1_neighbours 32 = .ok (.invokevirtual 45, 3) := by decide +kernel
theorem dX1_neighbours_35 : decode cX1_neighbours 35 = .ok (.iaload, 1) := by decide +kernel
theorem dX1_neighbours_36 : decode cX1_neighbours 36 = .ok (.istore 6, 2) := by decide +kernel
theorem dX1_neighbours_38 : decode cX1_neighbours 38 = .ok (.iload 5, 2) := by decide +kernel
theorem dX1_neighbours_40 : decode cX1_neighbours 40 = .ok (.iload_n 2, 1) := by decide +kernel
theorem dX1_neighbours_41 : decode cX1_neighbours 41 = .ok (.if_icmp .ne 10, 3) := by decide +kernel
theorem dX1_neighbours_44 : decode cX1_neighbours 44 = .ok (.iload_n 3, 1) := by decide +kernel
theorem dX1_neighbours_45 : decode cX1_neighbours 45 = .ok (.iconst 1, 1) := by decide +kernel
theorem dX1_neighbours_46 : decode cX1_neighbours 46 = .ok (.iload 6, 2) := by decide +kernel
theorem dX1_neighbours_48 : decode cX1_neighbours 48 = .ok (.ishl, 1) := by decide +kernel
theorem dX1_neighbours_49 : decode cX1_neighbours 49 = .ok (.ior, 1) := by decide +kernel
theorem dX1_neighbours_50 : decode cX1_neighbours 50 = .ok (.istore_n 3, 1) := by decide +kernel
theorem dX1_neighbours_51 : decode cX1_neighbours 51 = .ok (.iload 6, 2) := by decide +kernel
theorem dX1_neighbours_53 : decode cX1_neighbours 53 = .ok (.iload_n 2, 1) := by decide +kernel
theorem dX1_neighbours_54 : decode cX1_neighbours 54 = .ok (.if_icmp .ne 10, 3) := by decide +kernel
theorem dX1_neighbours_57 : decode cX1_neighbours 57 = .ok (.iload_n 3, 1) := by decide +kernel
theorem dX1_neighbours_58 : decode cX1_neighbours 58 = .ok (.iconst 1, 1) := by decide +kernel
theorem dX1_neighbours_59 : decode cX1_neighbours 59 = .ok (.iload 5, 2) := by decide +kernel
theorem dX1_neighbours_61 : decode cX1_neighbours 61 = .ok (.ishl, 1) := by decide +kernel
theorem dX1_neighbours_62 : decode cX1_neighbours 62 = .ok (.ior, 1) := by decide +kernel
theorem dX1_neighbours_63 : decode cX1_neighbours 63 = .ok (.istore_n 3, 1) := by decide +kernel
theorem dX1_neighbours_64 : decode cX1_neighbours 64 = .ok (.iinc 4 1, 3) := by decide +kernel
theorem dX1_neighbours_67 : decode cX1_neighbours 67 = .ok (.goto (-62), 3) := by decide +kernel
theorem dX1_neighbours_70 : decode cX1_neighbours 70 = .ok (.iload_n 3, 1) := by decide +kernel
theorem dX1_neighbours_71 : decode cX1_neighbours 71 = .ok (.iconst 1, 1) := by decide +kernel
theorem dX1_neighbours_72 : decode cX1_neighbours 72 = .ok (.iload_n 2, 1) := by decide +kernel
theorem dX1_neighbours_73 : decode cX1_neighbours 73 = .ok (.ishl, 1) := by decide +kernel
theorem dX1_neighbours_74 : decode cX1_neighbours 74 = .ok (.iconst (-1), 1) := by decide +kernel
theorem dX1_neighbours_75 : decode cX1_neighbours 75 = .ok (.ixor, 1) := by decide +kernel
theorem dX1_neighbours_76 : decode cX1_neighbours 76 = .ok (.iand, 1) := by decide +kernel
theorem dX1_neighbours_77 : decode cX1_neighbours 77 = .ok (.invokestatic 98, 3) := by decide +kernel
theorem dX1_neighbours_80 : decode cX1_neighbours 80 = .ok (.ireturn, 1) := by decide +kernel
set_option maxRecDepth 20000 in
theorem ggX1_cornersOf_X1_kindsAt : GoodIn wsX1_cornersOf wsX1_kindsAt := goodIn_r _ [5, 6, 7, 8, 9, 10, 11, 12, 13, 14, 15, 16, 17, 18, 19, 20] (by decide +kernel) (by decide +kernel)
set_option maxRecDepth 20000 in
theorem gX1_cornersOf_X1_kindsAt : GoodIn wsX1_cornersOf (wsV RX1 103 RX1 yX1_kindsAt wsX1_kindsAt) := goodIn_app (goodIn_of _ (by decide +kernel)) ggX1_cornersOf_X1_kindsAt
theorem dX1_cornersOf_0 : decode cX1_cornersOf 0 = .ok (.iconst 0, 1) := by decide +kernel
theorem dX1_cornersOf_1 : decode cX1_cornersOf 1 = .ok (.istore_n 2, 1) := by decide +kernel
theorem dX1_cornersOf_2 : decode cX1_cornersOf 2 = .ok (.iconst 0, 1) := by decide +kernel
theorem dX1_cornersOf_3 : decode cX1_cornersOf 3 = .ok (.istore_n 3, 1) := by decide +kernel
theorem dX1_cornersOf_4 : decode cX1_cornersOf 4 = .ok (.iload_n 3, 1) := by decide +kernel
theorem dX1_cornersOf_5 : decode cX1_cornersOf 5 = .ok (.iconst 5, 1) := by decide +kernel
theorem dX1_cornersOf_6 : decode cX1_cornersOf 6 = .ok (.if_icmp .ge 42, 3) := by decide +kernel
theorem dX1_cornersOf_9 : decode cX1_cornersOf 9 = .ok (.iconst 0, 1) := by decide +kernel
theorem dX1_cornersOf_10 : decode cX1_cornersOf 10 = .ok (.istore 4, 2) := by decide +kernel
theorem dX1_cornersOf_12 : decode cX1_cornersOf 12 = .ok (.iload 4, 2) := by decide +kernel
theorem dX1_cornersOf_14 : decode cX1_cornersOf 14 = .ok (.iconst 5, 1) := by decide +kernel
theorem dX1_cornersOf_15 : decode cX1_cornersOf 15 = .ok (.if_icmp .ge 27, 3) := by decide +kernel
theorem dX1_cornersOf_18 : decode cX1_cornersOf 18 = .ok (.aload_n 0, 1) := by decide +kernel
theorem dX1_cornersOf_19 : decode cX1_cornersOf 19 = .ok (.iload_n 3, 1) := by decide +kernel
theorem dX1_cornersOf_20 : decode cX1_cornersOf 20 = .ok (.bipush 6, 2) := by decide +kernel
theorem dX1_cornersOf_22 : decode cX1_cornersOf 22 = .ok (.imul, 1) := by decide +kernel
theorem dX1_cornersOf_23 : decode cX1_cornersOf 23 = .ok (.iload 4, 2) := by decide +kernel
theorem dX1_cornersOf_25 : decode cX1_cornersOf 25 = .ok (.iadd, 1) := by decide +kernel
theorem dX1_cornersOf_26 : decode cX1_cornersOf 26 = .ok (.invokevirtual 103, 3) := by decide +kernel
theorem dX1_cornersOf_29 : decode cX1_cornersOf 29 = .ok (.iload_n 1, 1) := by decide +kernel
theorem dX1_cornersOf_30 : decode cX1_cornersOf 30 = .ok (.if_icmp .ne 6, 3) := by decide +kernel
theorem dX1_cornersOf_33 : decode cX1_cornersOf 33 = .ok (.iinc 2 1, 3) := by decide +kernel
theorem dX1_cornersOf_36 : decode cX1_cornersOf 36 = .ok (.iinc 4 1, 3) := by decide +kernel
theorem dX1_cornersOf_39 : decode cX1_cornersOf 39 = .ok (.goto (-27), 3) := by decide +kernel
theorem dX1_cornersOf_42 : decode cX1_cornersOf 42 = .ok (.iinc 3 1, 3) := by decide +kernel
theorem dX1_cornersOf_45 : decode cX1_cornersOf 45 = .ok (.goto (-41), 3) := by decide +kernel
theorem dX1_cornersOf_48 : decode cX1_cornersOf 48 = .ok (.iload_n 2, 1) := by decide +kernel
theorem dX1_cornersOf_49 : decode cX1_cornersOf 49 = .ok (.ireturn, 1) := by decide +kernel
set_option maxRecDepth 20000 in
theorem ggX1_kindsAt_J6_bitCount_0f7a4 : GoodIn wsX1_kindsAt wsJ6_bitCount_0f7a4 := goodIn_r _ [5, 6, 7, 8] (by decide +kernel) (by decide +kernel)
set_option maxRecDepth 20000 in
theorem gX1_kindsAt_J6_bitCount_0f7a4 : GoodIn wsX1_kindsAt (va_wsS RX1 98 yJ6_bitCount_0f7a4 wsJ6_bitCount_0f7a4) := goodIn_app (goodIn_of _ (by decide +kernel)) ggX1_kindsAt_J6_bitCount_0f7a4
theorem dX1_kindsAt_0 : decode cX1_kindsAt 0 = .ok (.iconst 1, 1) := by decide +kernel
theorem dX1_kindsAt_1 : decode cX1_kindsAt 1 = .ok (.aload_n 0, 1) := by decide +kernel
theorem dX1_kindsAt_2 : decode cX1_kindsAt 2 = .ok (.getfield 9, 3) := by decide +kernel
theorem dX1_kindsAt_5 : decode cX1_kindsAt 5 = .ok (.iload_n 1, 1) := by decide +kernel
theorem dX1_kindsAt_6 : decode cX1_kindsAt 6 = .ok (.iaload, 1) := by decide +kernel
theorem dX1_kindsAt_7 : decode cX1_kindsAt 7 = .ok (.ishl, 1) := by decide +kernel
theorem dX1_kindsAt_8 : decode cX1_kindsAt 8 = .ok (.iconst 1, 1) := by decide +kernel
theorem dX1_kindsAt_9 : decode cX1_kindsAt 9 = .ok (.aload_n 0, 1) := by decide +kernel
theorem dX1_kindsAt_10 : decode cX1_kindsAt 10 = .ok (.getfield 9, 3) := by decide +kernel
theorem dX1_kindsAt_13 : decode cX1_kindsAt 13 = .ok (.iload_n 1, 1) := by decide +kernel
theorem dX1_kindsAt_14 : decode cX1_kindsAt 14 = .ok (.iconst 1, 1) := by decide +kernel
theorem dX1_kindsAt_15 : decode cX1_kindsAt 15 = .ok (.iadd, 1) := by decide +kernel
theorem dX1_kindsAt_16 : decode cX1_kindsAt 16 = .ok (.iaload, 1) := by decide +kernel
theorem dX1_kindsAt_17 : decode cX1_kindsAt 17 = .ok (.ishl, 1) := by decide +kernel
theorem dX1_kindsAt_18 : decode cX1_kindsAt 18 = .ok (.ior, 1) := by decide +kernel
theorem dX1_kindsAt_19 : decode cX1_kindsAt 19 = .ok (.istore_n 2, 1) := by decide +kernel
theorem dX1_kindsAt_20 : decode cX1_kindsAt 20 = .ok (.iconst 1, 1) := by decide +kernel
theorem dX1_kindsAt_21 : decode cX1_kindsAt 21 = .ok (.aload_n 0, 1) := by decide +kernel
theorem dX1_kindsAt_22 : decode cX1_kindsAt 22 = .ok (.getfield 9, 3) := by decide +kernel
theorem dX1_kindsAt_25 : decode cX1_kindsAt 25 = .ok (.iload_n 1, 1) := by decide +kernel
theorem dX1_kindsAt_26 : decode cX1_kindsAt 26 = .ok (.bipush 6, 2) := by decide +kernel
theorem dX1_kindsAt_28 : decode cX1_kindsAt 28 = .ok (.iadd, 1) := by decide +kernel
theorem dX1_kindsAt_29 : decode cX1_kindsAt 29 = .ok (.iaload, 1) := by decide +kernel
theorem dX1_kindsAt_30 : decode cX1_kindsAt 30 = .ok (.ishl, 1) := by decide +kernel
theorem dX1_kindsAt_31 : decode cX1_kindsAt 31 = .ok (.iconst 1, 1) := by decide +kernel
theorem dX1_kindsAt_32 : decode cX1_kindsAt 32 = .ok (.aload_n 0, 1) := by decide +kernel
theorem dX1_kindsAt_33 : decode cX1_kindsAt 33 = .ok (.getfield 9, 3) := by decide +kernel
theorem dX1_kindsAt_36 : decode cX1_kindsAt 36 = .ok (.iload_n 1, 1) := by decide +kernel
theorem dX1_kindsAt_37 : decode cX1_kindsAt 37 = .ok (.bipush 6, 2) := by decide +kernel
theorem dX1_kindsAt_39 : decode cX1_kindsAt 39 = .ok (.iadd, 1) := by decide +kernel
theorem dX1_kindsAt_40 : decode cX1_kindsAt 40 = .ok (.iconst 1, 1) := by decide +kernel
theorem dX1_kindsAt_41 : decode cX1_kindsAt 41 = .ok (.iadd, 1) := by decide +kernel
theorem dX1_kindsAt_42 : decode cX1_kindsAt 42 = .ok (.iaload, 1) := by decide +kernel
theorem dX1_kindsAt_43 : decode cX1_kindsAt 43 = .ok (.ishl, 1) := by decide +kernel
theorem dX1_kindsAt_44 : decode cX1_kindsAt 44 = .ok (.ior, 1) := by decide +kernel
theorem dX1_kindsAt_45 : decode cX1_kindsAt 45 = .ok (.istore_n 3, 1) := by decide +kernel
theorem dX1_kindsAt_46 : decode cX1_kindsAt 46 = .ok (.iload_n 2, 1) := by decide +kernel
theorem dX1_kindsAt_47 : decode cX1_kindsAt 47 = .ok (.iload_n 3, 1) := by decide +kernel
theorem dX1_kindsAt_48 : decode cX1_kindsAt 48 = .ok (.ior, 1) := by decide +kernel
theorem dX1_kindsAt_49 : decode cX1_kindsAt 49 = .ok (.invokestatic 98, 3) := by decide +kernel
theorem dX1_kindsAt_52 : decode cX1_kindsAt 52 = .ok (.ireturn, 1) := by decide +kernel
theorem dX2_init_0 : decode cX2_init 0 = .ok (.aload_n 0, 1) := by decide +kernel
theorem dX2_init_1 : decode cX2_init 1 = .ok (.invokespecial 3, 3) := by decide +kernel
theorem dX2_init_4 : decode cX2_init 4 = .ok (.aload_n 0, 1) := by decide +kernel
theorem dX2_init_5 : decode cX2_init 5 = .ok (.bipush 60, 2) := by decide +kernel
theorem dX2_init_7 : decode cX2_init 7 = .ok (.newarray .int, 2) := by decide +kernel
theorem dX2_init_9 : decode cX2_init 9 = .ok (.putfield 9, 3) := by decide +kernel
theorem dX2_init_12 : decode cX2_init 12 = .ok (.aload_n 0, 1) := by decide +kernel
theorem dX2_init_13 : decode cX2_init 13 = .ok (.bipush 60, 2) := by decide +kernel
theorem dX2_init_15 : decode cX2_init 15 = .ok (.newarray .int, 2) := by decide +kernel
theorem dX2_init_17 : decode cX2_init 17 = .ok (.putfield 15, 3) := by decide +kernel
theorem dX2_init_20 : decode cX2_init 20 = .ok (.aload_n 0, 1) := by decide +kernel
theorem dX2_init_21 : decode cX2_init 21 = .ok (.sipush 144, 3) := by decide +kernel
theorem dX2_init_24 : decode cX2_init 24 = .ok (.newarray .int, 2) := by decide +kernel
theorem dX2_init_26 : decode cX2_init 26 = .ok (.putfield 18, 3) := by decide +kernel
theorem dX2_init_29 : decode cX2_init 29 = .ok (.aload_n 0, 1) := by decide +kernel
theorem dX2_init_30 : decode cX2_init 30 = .ok (.bipush 60, 2) := by decide +kernel
theorem dX2_init_32 : decode cX2_init 32 = .ok (.newarray .int, 2) := by decide +kernel
theorem dX2_init_34 : decode cX2_init 34 = .ok (.putfield 21, 3) := by decide +kernel
theorem dX2_init_37 : decode cX2_init 37 = .ok (.aload_n 0, 1) := by decide +kernel
theorem dX2_init_38 : decode cX2_init 38 = .ok (.bipush 60, 2) := by decide +kernel
theorem dX2_init_40 : decode cX2_init 40 = .ok (.newarray .int, 2) := by decide +kernel
theorem dX2_init_42 : decode cX2_init 42 = .ok (.putfield 24, 3) := by decide +kernel
theorem dX2_init_45 : decode cX2_init 45 = .ok (.aload_n 0, 1) := by decide +kernel
theorem dX2_init_46 : decode cX2_init 46 = .ok (.iconst 1, 1) := by decide +kernel
theorem dX2_init_47 : decode cX2_init 47 = .ok (.putfield 27, 3) := by decide +kernel
theorem dX2_init_50 : decode cX2_init 50 = .ok (.aload_n 0, 1) := by decide +kernel
theorem dX2_init_51 : decode cX2_init 51 = .ok (.iconst 1, 1) := by decide +kernel
theorem dX2_init_52 : decode cX2_init 52 = .ok (.putfield 31, 3) := by decide +kernel
theorem dX2_init_55 : decode cX2_init 55 = .ok (.iconst 0, 1) := by decide +kernel
theorem dX2_init_56 : decode cX2_init 56 = .ok (.istore_n 1, 1) := by decide +kernel
theorem dX2_init_57 : decode cX2_init 57 = .ok (.iload_n 1, 1) := by decide +kernel
theorem dX2_init_58 : decode cX2_init 58 = .ok (.sipush 144, 3) := by decide +kernel
theorem dX2_init_61 : decode cX2_init 61 = .ok (.if_icmp .ge 16, 3) := by decide +kernel
theorem dX2_init_64 : decode cX2_init 64 = .ok (.aload_n 0, 1) := by decide +kernel
theorem dX2_init_65 : decode cX2_init 65 = .ok (.getfield 18, 3) := by decide +kernel
theorem dX2_init_68 : decode cX2_init 68 = .ok (.iload_n 1, 1) := by decide +kernel
theorem dX2_init_69 : decode cX2_init 69 = .ok (.iconst (-1), 1) := by decide +kernel
theorem dX2_init_70 : decode cX2_init 70 = .ok (.iastore, 1) := by decide +kernel
theorem dX2_init_71 : decode cX2_init 71 = .ok (.iinc 1 1, 3) := by decide +kernel
theorem dX2_init_74 : decode cX2_init 74 = .ok (.goto (-17), 3) := by decide +kernel
theorem dX2_init_77 : decode cX2_init 77 = .ok (.iconst 0, 1) := by decide +kernel
theorem dX2_init_78 : decode cX2_init 78 = .ok (.istore_n 1, 1) := by decide +kernel
theorem dX2_init_79 : decode cX2_init 79 = .ok (.iload_n 1, 1) := by decide +kernel
theorem dX2_init_80 : decode cX2_init 80 = .ok (.bipush 60, 2) := by decide +kernel
theorem dX2_init_82 : decode cX2_init 82 = .ok (.if_icmp .ge 118, 3) := by decide +kernel
theorem dX2_init_85 : decode cX2_init 85 = .ok (.iload_n 1, 1) := by decide +kernel
theorem dX2_init_86 : decode cX2_init 86 = .ok (.bipush 30, 2) := by decide +kernel
theorem dX2_init_88 : decode cX2_init 88 = .ok (.if_icmp .ge 7, 3) := by decide +kernel
theorem dX2_init_91 : decode cX2_init 91 = .ok (.iconst 1, 1) := by decide +kernel
theorem dX2_init_92 : decode cX2_init 92 = .ok (.goto 4, 3) := by decide +kernel
theorem dX2_init_95 : decode cX2_init 95 = .ok (.iconst 0, 1) := by decide +kernel
theorem dX2_init_96 : decode cX2_init 96 = .ok (.istore_n 2, 1) := by decide +kernel
theorem dX2_init_97 : decode cX2_init 97 = .ok (.iload_n 2, 1) := by decide +kernel
theorem dX2_init_98 : decode cX2_init 98 = .ok (.ifCond .eq 16, 3) := by decide +kernel
theorem dX2_init_101 : decode cX2_init 101 = .ok (.iload_n 1, 1) := by decide +kernel
theorem dX2_init_102 : decode cX2_init 102 = .ok (.iconst 5, 1) := by decide +kernel
theorem dX2_init_103 : decode cX2_init 103 = .ok (.idiv, 1) := by decide +kernel
theorem dX2_init_104 : decode cX2_init 104 = .ok (.bipush 6, 2) := by decide +kernel
theorem dX2_init_106 : decode cX2_init 106 = .ok (.imul, 1) := by decide +kernel
theorem dX2_init_107 : decode cX2_init 107 = .ok (.iload_n 1, 1) := by decide +kernel
theorem dX2_init_108 : decode cX2_init 108 = .ok (.iconst 5, 1) := by decide +kernel
theorem dX2_init_109 : decode cX2_init 109 = .ok (.irem, 1) := by decide +kernel
theorem dX2_init_110 : decode cX2_init 110 = .ok (.iadd, 1) := by decide +kernel
theorem dX2_init_111 : decode cX2_init 111 = .ok (.goto 7, 3) := by decide +kernel
theorem dX2_init_114 : decode cX2_init 114 = .ok (.iload_n 1, 1) := by decide +kernel
theorem dX2_init_115 : decode cX2_init 115 = .ok (.bipush 30, 2) := by decide +kernel
theorem dX2_init_117 : decode cX2_init 117 = .ok (.isub, 1) := by decide +kernel
theorem dX2_init_118 : decode cX2_init 118 = .ok (.istore_n 3, 1) := by decide +kernel
theorem dX2_init_119 : decode cX2_init 119 = .ok (.iload_n 3, 1) := by decide +kernel
theorem dX2_init_120 : decode cX2_init 120 = .ok (.iload_n 2, 1) := by decide +kernel
theorem dX2_init_121 : decode cX2_init 121 = .ok (.ifCond .eq 7, 3) := by decide +kernel
theorem dX2_init_124 : decode cX2_init 124 = .ok (.iconst 1, 1) := by decide +kernel
theorem dX2_init_125 : decode cX2_init 125 = .ok (.goto 5, 3) := by decide +kernel
theorem dX2_init_128 : decode cX2_init 128 = .ok (.bipush 6, 2) := by decide +kernel
theorem dX2_init_130 : decode cX2_init 130 = .ok (.iadd, 1) := by decide +kernel
theorem dX2_init_131 : decode cX2_init 131 = .ok (.istore 4, 2) := by decide +kernel
theorem dX2_init_133 : decode cX2_init 133 = .ok (.aload_n 0, 1) := by decide +kernel
theorem dX2_init_134 : decode cX2_init 134 = .ok (.getfield 9, 3) := by decide +kernel
theorem dX2_init_137 : decode cX2_init 137 = .ok (.iload_n 1, 1) := by decide +kernel
theorem dX2_init_138 : decode cX2_init 138 = .ok (.iload_n 3, 1) := by decide +kernel
theorem dX2_init_139 : decode cX2_init 139 = .ok (.iastore, 1) := by decide +kernel
theorem dX2_init_140 : decode cX2_init 140 = .ok (.aload_n 0, 1) := by decide +kernel
theorem dX2_init_141 : decode cX2_init 141 = .ok (.getfield 15, 3) := by decide +kernel
theorem dX2_init_144 : decode cX2_init 144 = .ok (.iload_n 1, 1) := by decide +kernel
theorem dX2_init_145 : decode cX2_init 145 = .ok (.iload 4, 2) := by decide +kernel
theorem dX2_init_147 : decode cX2_init 147 = .ok (.iastore, 1) := by decide +kernel
theorem dX2_init_148 : decode cX2_init 148 = .ok (.aload_n 0, 1) := by decide +kernel
theorem dX2_init_149 : decode cX2_init 149 = .ok (.getfield 18, 3) := by decide +kernel
theorem dX2_init_152 : decode cX2_init 152 = .ok (.iload_n 3, 1) := by decide +kernel
theorem dX2_init_153 : decode cX2_init 153 = .ok (.iconst 4, 1) := by decide +kernel
theorem dX2_init_154 : decode cX2_init 154 = .ok (.imul, 1) := by decide +kernel
theorem dX2_init_155 : decode cX2_init 155 = .ok (.iload_n 2, 1) := by decide +kernel
theorem dX2_init_156 : decode cX2_init 156 = .ok (.ifCond .eq 7, 3) := by decide +kernel
theorem dX2_init_159 : decode cX2_init 159 = .ok (.iconst 0, 1) := by decide +kernel
theorem dX2_init_160 : decode cX2_init 160 = .ok (.goto 4, 3) := by decide +kernel
theorem dX2_init_163 : decode cX2_init 163 = .ok (.iconst 1, 1) := by decide +kernel
theorem dX2_init_164 : decode cX2_init 164 = .ok (.iadd, 1) := by decide +kernel
theorem dX2_init_165 : decode cX2_init 165 = .ok (.iload_n 1, 1) := by decide +kernel
theorem dX2_init_166 : decode cX2_init 166 = .ok (.iastore, 1) := by decide +kernel
theorem dX2_init_167 : decode cX2_init 167 = .ok (.aload_n 0, 1) := by decide +kernel
theorem dX2_init_168 : decode cX2_init 168 = .ok (.getfield 18, 3) := by decide +kernel
theorem dX2_init_171 : decode cX2_init 171 = .ok (.iload 4, 2) := by decide +kernel
theorem dX2_init_173 : decode cX2_init 173 = .ok (.iconst 4, 1) := by decide +kernel
theorem dX2_init_174 : decode cX2_init 174 = .ok (.imul, 1) := by decide +kernel
theorem dX2_init_175 : decode cX2_init 175 = .ok (.iload_n 2, 1) := by decide +kernel
theorem dX2_init_176 : decode cX2_init 176 = .ok (.ifCond .eq 7, 3) := by decide +kernel
theorem dX2_init_179 : decode cX2_init 179 = .ok (.iconst 2, 1) := by decide +kernel
theorem dX2_init_180 : decode cX2_init 180 = .ok (.goto 4, 3) := by decide +kernel
theorem dX2_init_183 : decode cX2_init 183 = .ok (.iconst 3, 1) := by decide +kernel
theorem dX2_init_184 : decode cX2_init 184 = .ok (.iadd, 1) := by decide +kernel
theorem dX2_init_185 : decode cX2_init 185 = .ok (.iload_n 1, 1) := by decide +kernel
theorem dX2_init_186 : decode cX2_init 186 = .ok (.iastore, 1) := by decide +kernel
theorem dX2_init_187 : decode cX2_init 187 = .ok (.aload_n 0, 1) := by decide +kernel
theorem dX2_init_188 : decode cX2_init 188 = .ok (.getfield 24, 3) := by decide +kernel
theorem dX2_init_191 : decode cX2_init 191 = .ok (.iload_n 1, 1) := by decide +kernel
theorem dX2_init_192 : decode cX2_init 192 = .ok (.iconst 1, 1) := by decide +kernel
theorem dX2_init_193 : decode cX2_init 193 = .ok (.iastore, 1) := by decide +kernel
theorem dX2_init_194 : decode cX2_init 194 = .ok (.iinc 1 1, 3) := by decide +kernel
theorem dX2_init_197 : decode cX2_init 197 = .ok (.goto (-118), 3) := by decide +kernel
theorem dX2_init_200 : decode cX2_init 200 = .ok (.return_, 1) := by decide +kernel
theorem dX2_price_0 : decode cX2_price 0 = .ok (.aload_n 0, 1) := by decide +kernel
theorem dX2_price_1 : decode cX2_price 1 = .ok (.getfield 24, 3) := by decide +kernel
theorem dX2_price_4 : decode cX2_price 4 = .ok (.iload_n 1, 1) := by decide +kernel
theorem dX2_price_5 : decode cX2_price 5 = .ok (.iaload, 1) := by decide +kernel
theorem dX2_price_6 : decode cX2_price 6 = .ok (.ireturn, 1) := by decide +kernel
theorem dX2_changeDirection_0 : decode cX2_changeDirection 0 = .ok (.iload_n 1, 1) := by decide +kernel
theorem dX2_changeDirection_1 : decode cX2_changeDirection 1 = .ok (.ifCond .ne 10, 3) := by decide +kernel
theorem dX2_changeDirection_4 : decode cX2_changeDirection 4 = .ok (.aload_n 0, 1) := by decide +kernel
theorem dX2_changeDirection_5 : decode cX2_changeDirection 5 = .ok (.getfield 27, 3) := by decide +kernel
theorem dX2_changeDirection_8 : decode cX2_changeDirection 8 = .ok (.goto 7, 3) := by decide +kernel
theorem dX2_changeDirection_11 : decode cX2_changeDirection 11 = .ok (.aload_n 0, 1) := by decide +kernel
theorem dX2_changeDirection_12 : decode cX2_changeDirection 12 = .ok (.getfield 31, 3) := by decide +kernel
theorem dX2_changeDirection_15 : decode cX2_changeDirection 15 = .ok (.istore_n 3, 1) := by decide +kernel
theorem dX2_changeDirection_16 : decode cX2_changeDirection 16 = .ok (.iload_n 1, 1) := by decide +kernel
theorem dX2_changeDirection_17 : decode cX2_changeDirection 17 = .ok (.ifCond .ne 11, 3) := by decide +kernel
theorem dX2_changeDirection_20 : decode cX2_changeDirection 20 = .ok (.aload_n 0, 1) := by decide +kernel
theorem dX2_changeDirection_21 : decode cX2_changeDirection 21 = .ok (.iload_n 2, 1) := by decide +kernel
theorem dX2_changeDirection_22 : decode cX2_changeDirection 22 = .ok (.putfield 27, 3) := by decide +kernel
theorem dX2_changeDirection_25 : decode cX2_changeDirection 25 = .ok (.goto 8, 3) := by decide +kernel
theorem dX2_changeDirection_28 : decode cX2_changeDirection 28 = .ok (.aload_n 0, 1) := by decide +kernel
theorem dX2_changeDirection_29 : decode cX2_changeDirection 29 = .ok (.iload_n 2, 1) := by decide +kernel
theorem dX2_changeDirection_30 : decode cX2_changeDirection 30 = .ok (.putfield 31, 3) := by decide +kernel
theorem dX2_changeDirection_33 : decode cX2_changeDirection 33 = .ok (.iconst 0, 1) := by decide +kernel
theorem dX2_changeDirection_34 : decode cX2_changeDirection 34 = .ok (.istore 4, 2) := by decide +kernel
theorem dX2_changeDirection_36 : decode cX2_changeDirection 36 = .ok (.iload 4, 2) := by decide +kernel
theorem dX2_changeDirection_38 : decode cX2_changeDirection 38 = .ok (.bipush 60, 2) := by decide +kernel
theorem dX2_changeDirection_40 : decode cX2_changeDirection 40 = .ok (.if_icmp .ge 42, 3) := by decide +kernel
theorem dX2_changeDirection_43 : decode cX2_changeDirection 43 = .ok (.aload_n 0, 1) := by decide +kernel
theorem dX2_changeDirection_44 : decode cX2_changeDirection 44 = .ok (.getfield 24, 3) := by decide +kernel
theorem dX2_changeDirection_47 : decode cX2_changeDirection 47 = .ok (.iload 4, 2) := by decide +kernel
theorem dX2_changeDirection_49 : decode cX2_changeDirection 49 = .ok (.aload_n 0, 1) := by decide +kernel
theorem dX2_changeDirection_50 : decode cX2_changeDirection 50 = .ok (.getfield 21, 3) := by decide +kernel
theorem dX2_changeDirection_53 : decode cX2_changeDirection 53 = .ok (.iload 4, 2) := by decide +kernel
theorem dX2_changeDirection_55 : decode cX2_changeDirection 55 = .ok (.iaload, 1) := by decide +kernel
theorem dX2_changeDirection_56 : decode cX2_changeDirection 56 = .ok (.iload 4, 2) := by decide +kernel
theorem dX2_changeDirection_58 : decode cX2_changeDirection 58 = .ok (.bipush 30, 2) := by decide +kernel
theorem dX2_changeDirection_60 : decode cX2_changeDirection 60 = .ok (.if_icmp .ge 10, 3) := by decide +kernel
theorem dX2_changeDirection_63 : decode cX2_changeDirection 63 = .ok (.aload_n 0, 1) := by decide +kernel
theorem dX2_changeDirection_64 : decode cX2_changeDirection 64 = .ok (.getfield 27, 3) := by decide +kernel
theorem dX2_changeDirection_67 : decode cX2_changeDirection 67 = .ok (.goto 7, 3) := by decide +kernel
theorem dX2_changeDirection_70 : decode cX2_changeDirection 70 = .ok (.aload_n 0, 1) := by decide +kernel
theorem dX2_changeDirection_71 : decode cX2_changeDirection 71 = .ok (.getfield 31, 3) := by decide +kernel
theorem dX2_changeDirection_74 : decode cX2_changeDirection 74 = .ok (.iadd, 1) := by decide +kernel
theorem dX2_changeDirection_75 : decode cX2_changeDirection 75 = .ok (.iastore, 1) := by decide +kernel
theorem dX2_changeDirection_76 : decode cX2_changeDirection 76 = .ok (.iinc 4 1, 3) := by decide +kernel
theorem dX2_changeDirection_79 : decode cX2_changeDirection 79 = .ok (.goto (-43), 3) := by decide +kernel
theorem dX2_changeDirection_82 : decode cX2_changeDirection 82 = .ok (.iload_n 3, 1) := by decide +kernel
theorem dX2_changeDirection_83 : decode cX2_changeDirection 83 = .ok (.ireturn, 1) := by decide +kernel
theorem dX2_changeLaid_0 : decode cX2_changeLaid 0 = .ok (.aload_n 0, 1) := by decide +kernel
theorem dX2_changeLaid_1 : decode cX2_changeLaid 1 = .ok (.getfield 21, 3) := by decide +kernel
theorem dX2_changeLaid_4 : decode cX2_changeLaid 4 = .ok (.iload_n 1, 1) := by decide +kernel
theorem dX2_changeLaid_5 : decode cX2_changeLaid 5 = .ok (.iaload, 1) := by decide +kernel
theorem dX2_changeLaid_6 : decode cX2_changeLaid 6 = .ok (.istore_n 3, 1) := by decide +kernel
theorem dX2_changeLaid_7 : decode cX2_changeLaid 7 = .ok (.aload_n 0, 1) := by decide +kernel
theorem dX2_changeLaid_8 : decode cX2_changeLaid 8 = .ok (.getfield 21, 3) := by decide +kernel
theorem dX2_changeLaid_11 : decode cX2_changeLaid 11 = .ok (.iload_n 1, 1) := by decide +kernel
theorem dX2_changeLaid_12 : decode cX2_changeLaid 12 = .ok (.iload_n 2, 1) := by decide +kernel
theorem dX2_changeLaid_13 : decode cX2_changeLaid 13 = .ok (.iastore, 1) := by decide +kernel
theorem dX2_changeLaid_14 : decode cX2_changeLaid 14 = .ok (.aload_n 0, 1) := by decide +kernel
theorem dX2_changeLaid_15 : decode cX2_changeLaid 15 = .ok (.getfield 24, 3) := by decide +kernel
theorem dX2_changeLaid_18 : decode cX2_changeLaid 18 = .ok (.iload_n 1, 1) := by decide +kernel
theorem dX2_changeLaid_19 : decode cX2_changeLaid 19 = .ok (.iload_n 2, 1) := by decide +kernel
theorem dX2_changeLaid_20 : decode cX2_changeLaid 20 = .ok (.iload_n 1, 1) := by decide +kernel
theorem dX2_changeLaid_21 : decode cX2_changeLaid 21 = .ok (.bipush 30, 2) := by decide +kernel
theorem dX2_changeLaid_23 : decode cX2_changeLaid 23 = .ok (.if_icmp .ge 10, 3) := by decide +kernel
theorem dX2_changeLaid_26 : decode cX2_changeLaid 26 = .ok (.aload_n 0, 1) := by decide +kernel
theorem dX2_changeLaid_27 : decode cX2_changeLaid 27 = .ok (.getfield 27, 3) := by decide +kernel
theorem dX2_changeLaid_30 : decode cX2_changeLaid 30 = .ok (.goto 7, 3) := by decide +kernel
theorem dX2_changeLaid_33 : decode cX2_changeLaid 33 = .ok (.aload_n 0, 1) := by decide +kernel
theorem dX2_changeLaid_34 : decode cX2_changeLaid 34 = .ok (.getfield 31, 3) := by decide +kernel
theorem dX2_changeLaid_37 : decode cX2_changeLaid 37 = .ok (.iadd, 1) := by decide +kernel
theorem dX2_changeLaid_38 : decode cX2_changeLaid 38 = .ok (.iastore, 1) := by decide +kernel
theorem dX2_changeLaid_39 : decode cX2_changeLaid 39 = .ok (.iload_n 3, 1) := by decide +kernel
theorem dX2_changeLaid_40 : decode cX2_changeLaid 40 = .ok (.ireturn, 1) := by decide +kernel
theorem dX2_low_0 : decode cX2_low 0 = .ok (.aload_n 0, 1) := by decide +kernel
theorem dX2_low_1 : decode cX2_low 1 = .ok (.getfield 9, 3) := by decide +kernel
theorem dX2_low_4 : decode cX2_low 4 = .ok (.iload_n 1, 1) := by decide +kernel
theorem dX2_low_5 : decode cX2_low 5 = .ok (.iaload, 1) := by decide +kernel
theorem dX2_low_6 : decode cX2_low 6 = .ok (.ireturn, 1) := by decide +kernel
theorem dX2_high_0 : decode cX2_high 0 = .ok (.aload_n 0, 1) := by decide +kernel
theorem dX2_high_1 : decode cX2_high 1 = .ok (.getfield 15, 3) := by decide +kernel
theorem dX2_high_4 : decode cX2_high 4 = .ok (.iload_n 1, 1) := by decide +kernel
theorem dX2_high_5 : decode cX2_high 5 = .ok (.iaload, 1) := by decide +kernel
theorem dX2_high_6 : decode cX2_high 6 = .ok (.ireturn, 1) := by decide +kernel
theorem dX2_otherEnd_0 : decode cX2_otherEnd 0 = .ok (.iload_n 2, 1) := by decide +kernel
theorem dX2_otherEnd_1 : decode cX2_otherEnd 1 = .ok (.aload_n 0, 1) := by decide +kernel
theorem dX2_otherEnd_2 : decode cX2_otherEnd 2 = .ok (.getfield 9, 3) := by decide +kernel
theorem dX2_otherEnd_5 : decode cX2_otherEnd 5 = .ok (.iload_n 1, 1) := by decide +kernel
theorem dX2_otherEnd_6 : decode cX2_otherEnd 6 = .ok (.iaload, 1) := by decide +kernel
theorem dX2_otherEnd_7 : decode cX2_otherEnd 7 = .ok (.if_icmp .ne 12, 3) := by decide +kernel
theorem dX2_otherEnd_10 : decode cX2_otherEnd 10 = .ok (.aload_n 0, 1) := by decide +kernel
theorem dX2_otherEnd_11 : decode cX2_otherEnd 11 = .ok (.getfield 15, 3) := by decide +kernel
theorem dX2_otherEnd_14 : decode cX2_otherEnd 14 = .ok (.iload_n 1, 1) := by decide +kernel
theorem dX2_otherEnd_15 : decode cX2_otherEnd 15 = .ok (.iaload, 1) := by decide +kernel
theorem dX2_otherEnd_16 : decode cX2_otherEnd 16 = .ok (.goto 9, 3) := by decide +kernel
theorem dX2_otherEnd_19 : decode cX2_otherEnd 19 = .ok (.aload_n 0, 1) := by decide +kernel
theorem dX2_otherEnd_20 : decode cX2_otherEnd 20 = .ok (.getfield 9, 3) := by decide +kernel
theorem dX2_otherEnd_23 : decode cX2_otherEnd 23 = .ok (.iload_n 1, 1) := by decide +kernel
theorem dX2_otherEnd_24 : decode cX2_otherEnd 24 = .ok (.iaload, 1) := by decide +kernel
theorem dX2_otherEnd_25 : decode cX2_otherEnd 25 = .ok (.ireturn, 1) := by decide +kernel
theorem dX2_beside_0 : decode cX2_beside 0 = .ok (.aload_n 0, 1) := by decide +kernel
theorem dX2_beside_1 : decode cX2_beside 1 = .ok (.getfield 18, 3) := by decide +kernel
theorem dX2_beside_4 : decode cX2_beside 4 = .ok (.iload_n 1, 1) := by decide +kernel
theorem dX2_beside_5 : decode cX2_beside 5 = .ok (.iconst 4, 1) := by decide +kernel
theorem dX2_beside_6 : decode cX2_beside 6 = .ok (.imul, 1) := by decide +kernel
theorem dX2_beside_7 : decode cX2_beside 7 = .ok (.iload_n 2, 1) := by decide +kernel
theorem dX2_beside_8 : decode cX2_beside 8 = .ok (.iadd, 1) := by decide +kernel
theorem dX2_beside_9 : decode cX2_beside 9 = .ok (.iaload, 1) := by decide +kernel
theorem dX2_beside_10 : decode cX2_beside 10 = .ok (.ireturn, 1) := by decide +kernel
set_option maxRecDepth 20000 in
theorem ggX2_measure_X2_settle : GoodIn wsX2_measure wsX2_settle := goodIn_r _ [6, 7, 8, 9, 5, 10, 11, 12, 13, 14, 15, 16, 17, 18, 19, 20] (by decide +kernel) (by decide +kernel)
set_option maxRecDepth 20000 in
theorem gX2_measure_X2_settle : GoodIn wsX2_measure (wsV RX2 35 RX2 yX2_settle wsX2_settle) := goodIn_app (goodIn_of _ (by decide +kernel)) ggX2_measure_X2_settle
theorem dX2_measure_0 : decode cX2_measure 0 = .ok (.iconst 0, 1) := by decide +kernel
theorem dX2_measure_1 : decode cX2_measure 1 = .ok (.istore 4, 2) := by decide +kernel
theorem dX2_measure_3 : decode cX2_measure 3 = .ok (.iload 4, 2) := by decide +kernel
theorem dX2_measure_5 : decode cX2_measure 5 = .ok (.bipush 36, 2) := by decide +kernel
theorem dX2_measure_7 : decode cX2_measure 7 = .ok (.if_icmp .ge 27, 3) := by decide +kernel
theorem dX2_measure_10 : decode cX2_measure 10 = .ok (.aload_n 1, 1) := by decide +kernel
theorem dX2_measure_11 : decode cX2_measure 11 = .ok (.iload_n 2, 1) := by decide +kernel
theorem dX2_measure_12 : decode cX2_measure 12 = .ok (.iload 4, 2) := by decide +kernel
theorem dX2_measure_14 : decode cX2_measure 14 = .ok (.iadd, 1) := by decide +kernel
theorem dX2_measure_15 : decode cX2_measure 15 = .ok (.iload 4, 2) := by decide +kernel
theorem dX2_measure_17 : decode cX2_measure 17 = .ok (.iload_n 3, 1) := by decide +kernel
theorem dX2_measure_18 : decode cX2_measure 18 = .ok (.if_icmp .ne 7, 3) := by decide +kernel
theorem dX2_measure_21 : decode cX2_measure 21 = .ok (.iconst 0, 1) := by decide +kernel
theorem dX2_measure_22 : decode cX2_measure 22 = .ok (.goto 5, 3) := by decide +kernel
theorem dX2_measure_25 : decode cX2_measure 25 = .ok (.ldc 34, 2) := by decide +kernel
theorem dX2_measure_27 : decode cX2_measure 27 = .ok (.iastore, 1) := by decide +kernel
theorem dX2_measure_28 : decode cX2_measure 28 = .ok (.iinc 4 1, 3) := by decide +kernel
theorem dX2_measure_31 : decode cX2_measure 31 = .ok (.goto (-28), 3) := by decide +kernel
theorem dX2_measure_34 : decode cX2_measure 34 = .ok (.aload_n 0, 1) := by decide +kernel
theorem dX2_measure_35 : decode cX2_measure 35 = .ok (.aload_n 1, 1) := by decide +kernel
theorem dX2_measure_36 : decode cX2_measure 36 = .ok (.iload_n 2, 1) := by decide +kernel
theorem dX2_measure_37 : decode cX2_measure 37 = .ok (.invokevirtual 35, 3) := by decide +kernel
theorem dX2_measure_40 : decode cX2_measure 40 = .ok (.return_, 1) := by decide +kernel
set_option maxRecDepth 20000 in
theorem ggX2_settle_X2_lower : GoodIn wsX2_settle wsX2_lower := goodIn_r _ [5, 6, 7, 8, 9, 10, 11, 12, 13, 14, 15] (by decide +kernel) (by decide +kernel)
set_option maxRecDepth 20000 in
theorem gX2_settle_X2_lower : GoodIn wsX2_settle (wsV RX2 39 RX2 yX2_lower wsX2_lower) := goodIn_app (goodIn_of _ (by decide +kernel)) ggX2_settle_X2_lower
theorem dX2_settle_0 : decode cX2_settle 0 = .ok (.iconst 1, 1) := by decide +kernel
theorem dX2_settle_1 : decode cX2_settle 1 = .ok (.istore_n 3, 1) := by decide +kernel
theorem dX2_settle_2 : decode cX2_settle 2 = .ok (.iconst 0, 1) := by decide +kernel
theorem dX2_settle_3 : decode cX2_settle 3 = .ok (.istore 4, 2) := by decide +kernel
theorem dX2_settle_5 : decode cX2_settle 5 = .ok (.iload 4, 2) := by decide +kernel
theorem dX2_settle_7 : decode cX2_settle 7 = .ok (.bipush 36, 2) := by decide +kernel
theorem dX2_settle_9 : decode cX2_settle 9 = .ok (.if_icmp .ge 68, 3) := by decide +kernel
theorem dX2_settle_12 : decode cX2_settle 12 = .ok (.iload_n 3, 1) := by decide +kernel
theorem dX2_settle_13 : decode cX2_settle 13 = .ok (.ifCond .eq 64, 3) := by decide +kernel
theorem dX2_settle_16 : decode cX2_settle 16 = .ok (.iconst 0, 1) := by decide +kernel
theorem dX2_settle_17 : decode cX2_settle 17 = .ok (.istore_n 3, 1) := by decide +kernel
theorem dX2_settle_18 : decode cX2_settle 18 = .ok (.iconst 0, 1) := by decide +kernel
theorem dX2_settle_19 : decode cX2_settle 19 = .ok (.istore 5, 2) := by decide +kernel
theorem dX2_settle_21 : decode cX2_settle 21 = .ok (.iload 5, 2) := by decide +kernel
theorem dX2_settle_23 : decode cX2_settle 23 = .ok (.bipush 60, 2) := by decide +kernel
theorem dX2_settle_25 : decode cX2_settle 25 = .ok (.if_icmp .ge 20, 3) := by decide +kernel
theorem dX2_settle_28 : decode cX2_settle 28 = .ok (.iload_n 3, 1) := by decide +kernel
theorem dX2_settle_29 : decode cX2_settle 29 = .ok (.aload_n 0, 1) := by decide +kernel
theorem dX2_settle_30 : decode cX2_settle 30 = .ok (.aload_n 1, 1) := by decide +kernel
theorem dX2_settle_31 : decode cX2_settle 31 = .ok (.iload_n 2, 1) := by decide +kernel
theorem dX2_settle_32 : decode cX2_settle 32 = .ok (.iload 5, 2) := by decide +kernel
theorem dX2_settle_34 : decode cX2_settle 34 = .ok (.invokevirtual 39, 3) := by decide +kernel
theorem dX2_settle_37 : decode cX2_settle 37 = .ok (.ior, 1) := by decide +kernel
theorem dX2_settle_38 : decode cX2_settle 38 = .ok (.istore_n 3, 1) := by decide +kernel
theorem dX2_settle_39 : decode cX2_settle 39 = .ok (.iinc 5 1, 3) := by decide +kernel
theorem dX2_settle_42 : decode cX2_settle 42 = .ok (.goto (-21), 3) := by decide +kernel
theorem dX2_settle_45 : decode cX2_settle 45 = .ok (.bipush 59, 2) := by decide +kernel
theorem dX2_settle_47 : decode cX2_settle 47 = .ok (.istore 5, 2) := by decide +kernel
theorem dX2_settle_49 : decode cX2_settle 49 = .ok (.iload 5, 2) := by decide +kernel
theorem dX2_settle_51 : decode cX2_settle 51 = .ok (.ifCond .lt 20, 3) := by decide +kernel
theorem dX2_settle_54 : decode cX2_settle 54 = .ok (.iload_n 3, 1) := by decide +kernel
theorem dX2_settle_55 : decode cX2_settle 55 = .ok (.aload_n 0, 1) := by decide +kernel
theorem dX2_settle_56 : decode cX2_settle 56 = .ok (.aload_n 1, 1) := by decide +kernel
theorem dX2_settle_57 : decode cX2_settle 57 = .ok (.iload_n 2, 1) := by decide +kernel
theorem dX2_settle_58 : decode cX2_settle 58 = .ok (.iload 5, 2) := by decide +kernel
theorem dX2_settle_60 : decode cX2_settle 60 = .ok (.invokevirtual 39, 3) := by decide +kernel
theorem dX2_settle_63 : decode cX2_settle 63 = .ok (.ior, 1) := by decide +kernel
theorem dX2_settle_64 : decode cX2_settle 64 = .ok (.istore_n 3, 1) := by decide +kernel
theorem dX2_settle_65 : decode cX2_settle 65 = .ok (.iinc 5 (-1), 3) := by decide +kernel
theorem dX2_settle_68 : decode cX2_settle 68 = .ok (.goto (-19), 3) := by decide +kernel
theorem dX2_settle_71 : decode cX2_settle 71 = .ok (.iinc 4 1, 3) := by decide +kernel
theorem dX2_settle_74 : decode cX2_settle 74 = .ok (.goto (-69), 3) := by decide +kernel
theorem dX2_settle_77 : decode cX2_settle 77 = .ok (.return_, 1) := by decide +kernel
theorem dX2_lower_0 : decode cX2_lower 0 = .ok (.iload_n 2, 1) := by decide +kernel
theorem dX2_lower_1 : decode cX2_lower 1 = .ok (.aload_n 0, 1) := by decide +kernel
theorem dX2_lower_2 : decode cX2_lower 2 = .ok (.getfield 9, 3) := by decide +kernel
theorem dX2_lower_5 : decode cX2_lower 5 = .ok (.iload_n 3, 1) := by decide +kernel
theorem dX2_lower_6 : decode cX2_lower 6 = .ok (.iaload, 1) := by decide +kernel
theorem dX2_lower_7 : decode cX2_lower 7 = .ok (.iadd, 1) := by decide +kernel
theorem dX2_lower_8 : decode cX2_lower 8 = .ok (.istore 4, 2) := by decide +kernel
theorem dX2_lower_10 : decode cX2_lower 10 = .ok (.iload_n 2, 1) := by decide +kernel
theorem dX2_lower_11 : decode cX2_lower 11 = .ok (.aload_n 0, 1) := by decide +kernel
theorem dX2_lower_12 : decode cX2_lower 12 = .ok (.getfield 15, 3) := by decide +kernel
theorem dX2_lower_15 : decode cX2_lower 15 = .ok (.iload_n 3, 1) := by decide +kernel
theorem dX2_lower_16 : decode cX2_lower 16 = .ok (.iaload, 1) := by decide +kernel
theorem dX2_lower_17 : decode cX2_lower 17 = .ok (.iadd, 1) := by decide +kernel
theorem dX2_lower_18 : decode cX2_lower 18 = .ok (.istore 5, 2) := by decide +kernel
theorem dX2_lower_20 : decode cX2_lower 20 = .ok (.aload_n 0, 1) := by decide +kernel
theorem dX2_lower_21 : decode cX2_lower 21 = .ok (.getfield 24, 3) := by decide +kernel
theorem dX2_lower_24 : decode cX2_lower 24 = .ok (.iload_n 3, 1) := by decide +kernel
theorem dX2_lower_25 : decode cX2_lower 25 = .ok (.iaload, 1) := by decide +kernel
theorem dX2_lower_26 : decode cX2_lower 26 = .ok (.istore 6, 2) := by decide +kernel
theorem dX2_lower_28 : decode cX2_lower 28 = .ok (.aload_n 1, 1) := by decide +kernel
theorem dX2_lower_29 : decode cX2_lower 29 = .ok (.iload 4, 2) := by decide +kernel
theorem dX2_lower_31 : decode cX2_lower 31 = .ok (.iaload, 1) := by decide +kernel
theorem dX2_lower_32 : decode cX2_lower 32 = .ok (.iload 6, 2) := by decide +kernel
theorem dX2_lower_34 : decode cX2_lower 34 = .ok (.iadd, 1) := by decide +kernel
theorem dX2_lower_35 : decode cX2_lower 35 = .ok (.aload_n 1, 1) := by decide +kernel
theorem dX2_lower_36 : decode cX2_lower 36 = .ok (.iload 5, 2) := by decide +kernel
theorem dX2_lower_38 : decode cX2_lower 38 = .ok (.iaload, 1) := by decide +kernel
theorem dX2_lower_39 : decode cX2_lower 39 = .ok (.if_icmp .ge 16, 3) := by decide +kernel
theorem dX2_lower_42 : decode cX2_lower 42 = .ok (.aload_n 1, 1) := by decide +kernel
theorem dX2_lower_43 : decode cX2_lower 43 = .ok (.iload 5, 2) := by decide +kernel
theorem dX2_lower_45 : decode cX2_lower 45 = .ok (.aload_n 1, 1) := by decide +kernel
theorem dX2_lower_46 : decode cX2_lower 46 = .ok (.iload 4, 2) := by decide +kernel
theorem dX2_lower_48 : decode cX2_lower 48 = .ok (.iaload, 1) := by decide +kernel
theorem dX2_lower_49 : decode cX2_lower 49 = .ok (.iload 6, 2) := by decide +kernel
theorem dX2_lower_51 : decode cX2_lower 51 = .ok (.iadd, 1) := by decide +kernel
theorem dX2_lower_52 : decode cX2_lower 52 = .ok (.iastore, 1) := by decide +kernel
theorem dX2_lower_53 : decode cX2_lower 53 = .ok (.iconst 1, 1) := by decide +kernel
theorem dX2_lower_54 : decode cX2_lower 54 = .ok (.ireturn, 1) := by decide +kernel
theorem dX2_lower_55 : decode cX2_lower 55 = .ok (.aload_n 1, 1) := by decide +kernel
theorem dX2_lower_56 : decode cX2_lower 56 = .ok (.iload 5, 2) := by decide +kernel
theorem dX2_lower_58 : decode cX2_lower 58 = .ok (.iaload, 1) := by decide +kernel
theorem dX2_lower_59 : decode cX2_lower 59 = .ok (.iload 6, 2) := by decide +kernel
theorem dX2_lower_61 : decode cX2_lower 61 = .ok (.iadd, 1) := by decide +kernel
theorem dX2_lower_62 : decode cX2_lower 62 = .ok (.aload_n 1, 1) := by decide +kernel
theorem dX2_lower_63 : decode cX2_lower 63 = .ok (.iload 4, 2) := by decide +kernel
theorem dX2_lower_65 : decode cX2_lower 65 = .ok (.iaload, 1) := by decide +kernel
theorem dX2_lower_66 : decode cX2_lower 66 = .ok (.if_icmp .ge 16, 3) := by decide +kernel
theorem dX2_lower_69 : decode cX2_lower 69 = .ok (.aload_n 1, 1) := by decide +kernel
theorem dX2_lower_70 : decode cX2_lower 70 = .ok (.iload 4, 2) := by decide +kernel
theorem dX2_lower_72 : decode cX2_lower 72 = .ok (.aload_n 1, 1) := by decide +kernel
theorem dX2_lower_73 : decode cX2_lower 73 = .ok (.iload 5, 2) := by decide +kernel
theorem dX2_lower_75 : decode cX2_lower 75 = .ok (.iaload, 1) := by decide +kernel
theorem dX2_lower_76 : decode cX2_lower 76 = .ok (.iload 6, 2) := by decide +kernel
theorem dX2_lower_78 : decode cX2_lower 78 = .ok (.iadd, 1) := by decide +kernel
theorem dX2_lower_79 : decode cX2_lower 79 = .ok (.iastore, 1) := by decide +kernel
theorem dX2_lower_80 : decode cX2_lower 80 = .ok (.iconst 1, 1) := by decide +kernel
theorem dX2_lower_81 : decode cX2_lower 81 = .ok (.ireturn, 1) := by decide +kernel
theorem dX2_lower_82 : decode cX2_lower 82 = .ok (.iconst 0, 1) := by decide +kernel
theorem dX2_lower_83 : decode cX2_lower 83 = .ok (.ireturn, 1) := by decide +kernel
theorem dX3_init_0 : decode cX3_init 0 = .ok (.aload_n 0, 1) := by decide +kernel
theorem dX3_init_1 : decode cX3_init 1 = .ok (.invokespecial 3, 3) := by decide +kernel
theorem dX3_init_4 : decode cX3_init 4 = .ok (.aload_n 0, 1) := by decide +kernel
theorem dX3_init_5 : decode cX3_init 5 = .ok (.bipush 6, 2) := by decide +kernel
theorem dX3_init_7 : decode cX3_init 7 = .ok (.newarray .int, 2) := by decide +kernel
theorem dX3_init_9 : decode cX3_init 9 = .ok (.putfield 9, 3) := by decide +kernel
theorem dX3_init_12 : decode cX3_init 12 = .ok (.aload_n 0, 1) := by decide +kernel
theorem dX3_init_13 : decode cX3_init 13 = .ok (.iconst 0, 1) := by decide +kernel
theorem dX3_init_14 : decode cX3_init 14 = .ok (.putfield 15, 3) := by decide +kernel
theorem dX3_init_17 : decode cX3_init 17 = .ok (.aload_n 0, 1) := by decide +kernel
theorem dX3_init_18 : decode cX3_init 18 = .ok (.sipush 2304, 3) := by decide +kernel
theorem dX3_init_21 : decode cX3_init 21 = .ok (.newarray .int, 2) := by decide +kernel
theorem dX3_init_23 : decode cX3_init 23 = .ok (.putfield 19, 3) := by decide +kernel
theorem dX3_init_26 : decode cX3_init 26 = .ok (.aload_n 0, 1) := by decide +kernel
theorem dX3_init_27 : decode cX3_init 27 = .ok (.iconst 0, 1) := by decide +kernel
theorem dX3_init_28 : decode cX3_init 28 = .ok (.putfield 22, 3) := by decide +kernel
theorem dX3_init_31 : decode cX3_init 31 = .ok (.aload_n 0, 1) := by decide +kernel
theorem dX3_init_32 : decode cX3_init 32 = .ok (.sipush 216, 3) := by decide +kernel
theorem dX3_init_35 : decode cX3_init 35 = .ok (.newarray .int, 2) := by decide +kernel
theorem dX3_init_37 : decode cX3_init 37 = .ok (.putfield 26, 3) := by decide +kernel
theorem dX3_init_40 : decode cX3_init 40 = .ok (.aload_n 0, 1) := by decide +kernel
theorem dX3_init_41 : decode cX3_init 41 = .ok (.bipush 36, 2) := by decide +kernel
theorem dX3_init_43 : decode cX3_init 43 = .ok (.newarray .int, 2) := by decide +kernel
theorem dX3_init_45 : decode cX3_init 45 = .ok (.putfield 29, 3) := by decide +kernel
theorem dX3_init_48 : decode cX3_init 48 = .ok (.aload_n 0, 1) := by decide +kernel
theorem dX3_init_49 : decode cX3_init 49 = .ok (.bipush 6, 2) := by decide +kernel
theorem dX3_init_51 : decode cX3_init 51 = .ok (.newarray .int, 2) := by decide +kernel
theorem dX3_init_53 : decode cX3_init 53 = .ok (.putfield 32, 3) := by decide +kernel
theorem dX3_init_56 : decode cX3_init 56 = .ok (.return_, 1) := by decide +kernel
theorem dX3_size_0 : decode cX3_size 0 = .ok (.aload_n 0, 1) := by decide +kernel
theorem dX3_size_1 : decode cX3_size 1 = .ok (.getfield 15, 3) := by decide +kernel
theorem dX3_size_4 : decode cX3_size 4 = .ok (.ireturn, 1) := by decide +kernel
theorem dX3_isFull_0 : decode cX3_isFull 0 = .ok (.aload_n 0, 1) := by decide +kernel
theorem dX3_isFull_1 : decode cX3_isFull 1 = .ok (.getfield 15, 3) := by decide +kernel
theorem dX3_isFull_4 : decode cX3_isFull 4 = .ok (.bipush 6, 2) := by decide +kernel
theorem dX3_isFull_6 : decode cX3_isFull 6 = .ok (.if_icmp .lt 7, 3) := by decide +kernel
theorem dX3_isFull_9 : decode cX3_isFull 9 = .ok (.iconst 1, 1) := by decide +kernel
theorem dX3_isFull_10 : decode cX3_isFull 10 = .ok (.goto 4, 3) := by decide +kernel
theorem dX3_isFull_13 : decode cX3_isFull 13 = .ok (.iconst 0, 1) := by decide +kernel
theorem dX3_isFull_14 : decode cX3_isFull 14 = .ok (.ireturn, 1) := by decide +kernel
theorem dX3_nodeOf_0 : decode cX3_nodeOf 0 = .ok (.aload_n 0, 1) := by decide +kernel
theorem dX3_nodeOf_1 : decode cX3_nodeOf 1 = .ok (.getfield 9, 3) := by decide +kernel
theorem dX3_nodeOf_4 : decode cX3_nodeOf 4 = .ok (.iload_n 1, 1) := by decide +kernel
theorem dX3_nodeOf_5 : decode cX3_nodeOf 5 = .ok (.iaload, 1) := by decide +kernel
theorem dX3_nodeOf_6 : decode cX3_nodeOf 6 = .ok (.ireturn, 1) := by decide +kernel
theorem dX3_hasTownAt_0 : decode cX3_hasTownAt 0 = .ok (.iconst 0, 1) := by decide +kernel
theorem dX3_hasTownAt_1 : decode cX3_hasTownAt 1 = .ok (.istore_n 2, 1) := by decide +kernel
theorem dX3_hasTownAt_2 : decode cX3_hasTownAt 2 = .ok (.iload_n 2, 1) := by decide +kernel
theorem dX3_hasTownAt_3 : decode cX3_hasTownAt 3 = .ok (.aload_n 0, 1) := by decide +kernel
theorem dX3_hasTownAt_4 : decode cX3_hasTownAt 4 = .ok (.getfield 15, 3) := by decide +kernel
theorem dX3_hasTownAt_7 : decode cX3_hasTownAt 7 = .ok (.if_icmp .ge 21, 3) := by decide +kernel
theorem dX3_hasTownAt_10 : decode cX3_hasTownAt 10 = .ok (.aload_n 0, 1) := by decide +kernel
theorem dX3_hasTownAt_11 : decode cX3_hasTownAt 11 = .ok (.getfield 9, 3) := by decide +kernel
theorem dX3_hasTownAt_14 : decode cX3_hasTownAt 14 = .ok (.iload_n 2, 1) := by decide +kernel
theorem dX3_hasTownAt_15 : decode cX3_hasTownAt 15 = .ok (.iaload, 1) := by decide +kernel
theorem dX3_hasTownAt_16 : decode cX3_hasTownAt 16 = .ok (.iload_n 1, 1) := by decide +kernel
theorem dX3_hasTownAt_17 : decode cX3_hasTownAt 17 = .ok (.if_icmp .ne 5, 3) := by decide +kernel
theorem dX3_hasTownAt_20 : decode cX3_hasTownAt 20 = .ok (.iconst 1, 1) := by decide +kernel
theorem dX3_hasTownAt_21 : decode cX3_hasTownAt 21 = .ok (.ireturn, 1) := by decide +kernel
theorem dX3_hasTownAt_22 : decode cX3_hasTownAt 22 = .ok (.iinc 2 1, 3) := by decide +kernel
theorem dX3_hasTownAt_25 : decode cX3_hasTownAt 25 = .ok (.goto (-23), 3) := by decide +kernel
theorem dX3_hasTownAt_28 : decode cX3_hasTownAt 28 = .ok (.iconst 0, 1) := by decide +kernel
theorem dX3_hasTownAt_29 : decode cX3_hasTownAt 29 = .ok (.ireturn, 1) := by decide +kernel
set_option maxRecDepth 20000 in
theorem ggX3_add_X3_forget : GoodIn wsX3_add wsX3_forget := goodIn_r _ [7, 8, 9, 10, 11, 12, 13, 14, 15] (by decide +kernel) (by decide +kernel)
set_option maxRecDepth 20000 in
theorem gX3_add_X3_forget : GoodIn wsX3_add (wsV RX3 35 RX3 yX3_forget wsX3_forget) := goodIn_app (goodIn_of _ (by decide +kernel)) ggX3_add_X3_forget
theorem dX3_add_0 : decode cX3_add 0 = .ok (.aload_n 0, 1) := by decide +kernel
theorem dX3_add_1 : decode cX3_add 1 = .ok (.getfield 9, 3) := by decide +kernel
theorem dX3_add_4 : decode cX3_add 4 = .ok (.aload_n 0, 1) := by decide +kernel
theorem dX3_add_5 : decode cX3_add 5 = .ok (.getfield 15, 3) := by decide +kernel
theorem dX3_add_8 : decode cX3_add 8 = .ok (.iload_n 1, 1) := by decide +kernel
theorem dX3_add_9 : decode cX3_add 9 = .ok (.iastore, 1) := by decide +kernel
theorem dX3_add_10 : decode cX3_add 10 = .ok (.aload_n 0, 1) := by decide +kernel
theorem dX3_add_11 : decode cX3_add 11 = .ok (.dup, 1) := by decide +kernel
theorem dX3_add_12 : decode cX3_add 12 = .ok (.getfield 15, 3) := by decide +kernel
theorem dX3_add_15 : decode cX3_add 15 = .ok (.iconst 1, 1) := by decide +kernel
theorem dX3_add_16 : decode cX3_add 16 = .ok (.iadd, 1) := by decide +kernel
theorem dX3_add_17 : decode cX3_add 17 = .ok (.putfield 15, 3) := by decide +kernel
theorem dX3_add_20 : decode cX3_add 20 = .ok (.aload_n 0, 1) := by decide +kernel
theorem dX3_add_21 : decode cX3_add 21 = .ok (.invokevirtual 35, 3) := by decide +kernel
theorem dX3_add_24 : decode cX3_add 24 = .ok (.aload_n 0, 1) := by decide +kernel
theorem dX3_add_25 : decode cX3_add 25 = .ok (.getfield 15, 3) := by decide +kernel
theorem dX3_add_28 : decode cX3_add 28 = .ok (.iconst 1, 1) := by decide +kernel
theorem dX3_add_29 : decode cX3_add 29 = .ok (.isub, 1) := by decide +kernel
theorem dX3_add_30 : decode cX3_add 30 = .ok (.ireturn, 1) := by decide +kernel
set_option maxRecDepth 20000 in
theorem ggX3_remove_X3_forget : GoodIn wsX3_remove wsX3_forget := goodIn_r _ [7, 8, 9, 10, 11, 12, 13, 14, 15] (by decide +kernel) (by decide +kernel)
set_option maxRecDepth 20000 in
theorem gX3_remove_X3_forget : GoodIn wsX3_remove (wsV RX3 35 RX3 yX3_forget wsX3_forget) := goodIn_app (goodIn_of _ (by decide +kernel)) ggX3_remove_X3_forget
theorem dX3_remove_0 : decode cX3_remove 0 = .ok (.aload_n 0, 1) := by decide +kernel
theorem dX3_remove_1 : decode cX3_remove 1 = .ok (.getfield 9, 3) := by decide +kernel
theorem dX3_remove_4 : decode cX3_remove 4 = .ok (.iload_n 1, 1) := by decide +kernel
theorem dX3_remove_5 : decode cX3_remove 5 = .ok (.iaload, 1) := by decide +kernel
theorem dX3_remove_6 : decode cX3_remove 6 = .ok (.istore_n 2, 1) := by decide +kernel
theorem dX3_remove_7 : decode cX3_remove 7 = .ok (.iload_n 1, 1) := by decide +kernel
theorem dX3_remove_8 : decode cX3_remove 8 = .ok (.iconst 1, 1) := by decide +kernel
theorem dX3_remove_9 : decode cX3_remove 9 = .ok (.iadd, 1) := by decide +kernel
theorem dX3_remove_10 : decode cX3_remove 10 = .ok (.istore_n 3, 1) := by decide +kernel
theorem dX3_remove_11 : decode cX3_remove 11 = .ok (.iload_n 3, 1) := by decide +kernel
theorem dX3_remove_12 : decode cX3_remove 12 = .ok (.aload_n 0, 1) := by decide +kernel
theorem dX3_remove_13 : decode cX3_remove 13 = .ok (.getfield 15, 3) := by decide +kernel
theorem dX3_remove_16 : decode cX3_remove 16 = .ok (.if_icmp .ge 23, 3) := by decide +kernel
theorem dX3_remove_19 : decode cX3_remove 19 = .ok (.aload_n 0, 1) := by decide +kernel
theorem dX3_remove_20 : decode cX3_remove 20 = .ok (.getfield 9, 3) := by decide +kernel
theorem dX3_remove_23 : decode cX3_remove 23 = .ok (.iload_n 3, 1) := by decide +kernel
theorem dX3_remove_24 : decode cX3_remove 24 = .ok (.iconst 1, 1) := by decide +kernel
theorem dX3_remove_25 : decode cX3_remove 25 = .ok (.isub, 1) := by decide +kernel
theorem dX3_remove_26 : decode cX3_remove 26 = .ok (.aload_n 0, 1) := by decide +kernel
theorem dX3_remove_27 : decode cX3_remove 27 = .ok (.getfield 9, 3) := by decide +kernel
theorem dX3_remove_30 : decode cX3_remove 30 = .ok (.iload_n 3, 1) := by decide +kernel
theorem dX3_remove_31 : decode cX3_remove 31 = .ok (.iaload, 1) := by decide +kernel
theorem dX3_remove_32 : decode cX3_remove 32 = .ok (.iastore, 1) := by decide +kernel
theorem dX3_remove_33 : decode cX3_remove 33 = .ok (.iinc 3 1, 3) := by decide +kernel
theorem dX3_remove_36 : decode cX3_remove 36 = .ok (.goto (-25), 3) := by decide +kernel
theorem dX3_remove_39 : decode cX3_remove 39 = .ok (.aload_n 0, 1) := by decide +kernel
theorem dX3_remove_40 : decode cX3_remove 40 = .ok (.dup, 1) := by decide +kernel
theorem dX3_remove_41 : decode cX3_remove 41 = .ok (.getfield 15, 3) := by decide +kernel
theorem dX3_remove_44 : decode cX3_remove 44 = .ok (.iconst 1, 1) := by decide +kernel
theorem dX3_remove_45 : decode cX3_remove 45 = .ok (.isub, 1) := by decide +kernel
theorem dX3_remove_46 : decode cX3_remove 46 = .ok (.putfield 15, 3) := by decide +kernel
theorem dX3_remove_49 : decode cX3_remove 49 = .ok (.aload_n 0, 1) := by decide +kernel
theorem dX3_remove_50 : decode cX3_remove 50 = .ok (.invokevirtual 35, 3) := by decide +kernel
theorem dX3_remove_53 : decode cX3_remove 53 = .ok (.iload_n 2, 1) := by decide +kernel
theorem dX3_remove_54 : decode cX3_remove 54 = .ok (.ireturn, 1) := by decide +kernel
theorem dX3_forget_0 : decode cX3_forget 0 = .ok (.aload_n 0, 1) := by decide +kernel
theorem dX3_forget_1 : decode cX3_forget 1 = .ok (.iconst 0, 1) := by decide +kernel
theorem dX3_forget_2 : decode cX3_forget 2 = .ok (.putfield 22, 3) := by decide +kernel
theorem dX3_forget_5 : decode cX3_forget 5 = .ok (.return_, 1) := by decide +kernel
set_option maxRecDepth 20000 in
theorem ggX3_cheapest_X3_joinAll : GoodIn wsX3_cheapest wsX3_joinAll := goodIn_r _ [8, 9, 1, 2, 3, 10, 11, 12, 13, 14, 15, 16, 17, 18, 19, 20, 21, 22, 23, 24, 25, 26, 27, 28, 29, 7, 30, 31, 32, 33, 34, 35, 36, 37, 38, 39, 40, 41, 42, 43, 44, 45, 46, 47, 48, 49, 50, 51, 52, 53, 54, 55, 56, 57, 58, 59, 60, 61] (by decide +kernel) (by decide +kernel)
set_option maxRecDepth 20000 in
theorem gX3_cheapest_X3_joinAll : GoodIn wsX3_cheapest (wsV RX3 38 RX3 yX3_joinAll wsX3_joinAll) := goodIn_app (goodIn_of _ (by decide +kernel)) ggX3_cheapest_X3_joinAll
set_option maxRecDepth 20000 in
theorem ggX3_cheapest_X3_allTowns : GoodIn wsX3_cheapest wsX3_allTowns := goodIn_r _ [30, 1, 48, 49, 50, 51, 52, 53, 54] (by decide +kernel) (by decide +kernel)
set_option maxRecDepth 20000 in
theorem gX3_cheapest_X3_allTowns : GoodIn wsX3_cheapest (wsV RX3 42 RX3 yX3_allTowns wsX3_allTowns) := goodIn_app (goodIn_of _ (by decide +kernel)) ggX3_cheapest_X3_allTowns
theorem dX3_cheapest_0 : decode cX3_cheapest 0 = .ok (.aload_n 0, 1) := by decide +kernel
theorem dX3_cheapest_1 : decode cX3_cheapest 1 = .ok (.getfield 15, 3) := by decide +kernel
theorem dX3_cheapest_4 : decode cX3_cheapest 4 = .ok (.iconst 2, 1) := by decide +kernel
theorem dX3_cheapest_5 : decode cX3_cheapest 5 = .ok (.if_icmp .ge 5, 3) := by decide +kernel
theorem dX3_cheapest_8 : decode cX3_cheapest 8 = .ok (.iconst 0, 1) := by decide +kernel
theorem dX3_cheapest_9 : decode cX3_cheapest 9 = .ok (.ireturn, 1) := by decide +kernel
theorem dX3_cheapest_10 : decode cX3_cheapest 10 = .ok (.aload_n 0, 1) := by decide +kernel
theorem dX3_cheapest_11 : decode cX3_cheapest 11 = .ok (.aload_n 1, 1) := by decide +kernel
theorem dX3_cheapest_12 : decode cX3_cheapest 12 = .ok (.invokevirtual 38, 3) := by decide +kernel
theorem dX3_cheapest_15 : decode cX3_cheapest 15 = .ok (.aload_n 0, 1) := by decide +kernel
theorem dX3_cheapest_16 : decode cX3_cheapest 16 = .ok (.getfield 19, 3) := by decide +kernel
theorem dX3_cheapest_19 : decode cX3_cheapest 19 = .ok (.aload_n 0, 1) := by decide +kernel
theorem dX3_cheapest_20 : decode cX3_cheapest 20 = .ok (.invokevirtual 42, 3) := by decide +kernel
theorem dX3_cheapest_23 : decode cX3_cheapest 23 = .ok (.bipush 36, 2) := by decide +kernel
theorem dX3_cheapest_25 : decode cX3_cheapest 25 = .ok (.imul, 1) := by decide +kernel
theorem dX3_cheapest_26 : decode cX3_cheapest 26 = .ok (.aload_n 0, 1) := by decide +kernel
theorem dX3_cheapest_27 : decode cX3_cheapest 27 = .ok (.getfield 9, 3) := by decide +kernel
theorem dX3_cheapest_30 : decode cX3_cheapest 30 = .ok (.iconst 0, 1) := by decide +kernel
theorem dX3_cheapest_31 : decode cX3_cheapest 31 = .ok (.iaload, 1) := by decide +kernel
theorem dX3_cheapest_32 : decode cX3_cheapest 32 = .ok (.iadd, 1) := by decide +kernel
theorem dX3_cheapest_33 : decode cX3_cheapest 33 = .ok (.iaload, 1) := by decide +kernel
theorem dX3_cheapest_34 : decode cX3_cheapest 34 = .ok (.ireturn, 1) := by decide +kernel
set_option maxRecDepth 20000 in
theorem ggX3_isInCheapest_X3_joinAll : GoodIn wsX3_isInCheapest wsX3_joinAll := goodIn_r _ [8, 9, 1, 2, 3, 10, 11, 12, 13, 14, 15, 16, 17, 18, 19, 20, 21, 22, 23, 24, 25, 26, 27, 28, 29, 7, 30, 31, 32, 33, 34, 35, 36, 37, 38, 39, 40, 41, 42, 43, 44, 45, 46, 47, 60, 61, 62, 63, 64, 65, 66, 67, 68, 69, 70, 71, 72, 73] (by decide +kernel) (by decide +kernel)
set_option maxRecDepth 20000 in
theorem gX3_isInCheapest_X3_joinAll : GoodIn wsX3_isInCheapest (wsV RX3 38 RX3 yX3_joinAll wsX3_joinAll) := goodIn_app (goodIn_of _ (by decide +kernel)) ggX3_isInCheapest_X3_joinAll
set_option maxRecDepth 20000 in
theorem ggX3_isInCheapest_X3_allTowns : GoodIn wsX3_isInCheapest wsX3_allTowns := goodIn_r _ [30, 1, 60, 61, 62, 63, 64, 65, 66] (by decide +kernel) (by decide +kernel)
set_option maxRecDepth 20000 in
theorem gX3_isInCheapest_X3_allTowns : GoodIn wsX3_isInCheapest (wsV RX3 42 RX3 yX3_allTowns wsX3_allTowns) := goodIn_app (goodIn_of _ (by decide +kernel)) ggX3_isInCheapest_X3_allTowns
set_option maxRecDepth 20000 in
theorem ggX3_isInCheapest_X2_low : GoodIn wsX3_isInCheapest wsX2_low := goodIn_r _ [51, 24, 67, 68, 69, 70, 71, 72, 73] (by decide +kernel) (by decide +kernel)
set_option maxRecDepth 20000 in
theorem gX3_isInCheapest_X2_low : GoodIn wsX3_isInCheapest (wsV RX3 46 RX2 yX2_low wsX2_low) := goodIn_app (goodIn_of _ (by decide +kernel)) ggX3_isInCheapest_X2_low
set_option maxRecDepth 20000 in
theorem ggX3_isInCheapest_X2_high : GoodIn wsX3_isInCheapest wsX2_high := goodIn_r _ [55, 25, 67, 68, 69, 70, 71, 72, 73] (by decide +kernel) (by decide +kernel)
set_option maxRecDepth 20000 in
theorem gX3_isInCheapest_X2_high : GoodIn wsX3_isInCheapest (wsV RX3 52 RX2 yX2_high wsX2_high) := goodIn_app (goodIn_of _ (by decide +kernel)) ggX3_isInCheapest_X2_high
set_option maxRecDepth 20000 in
theorem ggX3_isInCheapest_X2_price : GoodIn wsX3_isInCheapest wsX2_price := goodIn_r _ [59, 26, 67, 68, 69, 70, 71, 72, 73] (by decide +kernel) (by decide +kernel)
set_option maxRecDepth 20000 in
theorem gX3_isInCheapest_X2_price : GoodIn wsX3_isInCheapest (wsV RX3 55 RX2 yX2_price wsX2_price) := goodIn_app (goodIn_of _ (by decide +kernel)) ggX3_isInCheapest_X2_price
theorem dX3_isInCheapest_0 : decode cX3_isInCheapest 0 = .ok (.aload_n 0, 1) := by decide +kernel
theorem dX3_isInCheapest_1 : decode cX3_isInCheapest 1 = .ok (.getfield 15, 3) := by decide +kernel
theorem dX3_isInCheapest_4 : decode cX3_isInCheapest 4 = .ok (.iconst 2, 1) := by decide +kernel
theorem dX3_isInCheapest_5 : decode cX3_isInCheapest 5 = .ok (.if_icmp .ge 5, 3) := by decide +kernel
theorem dX3_isInCheapest_8 : decode cX3_isInCheapest 8 = .ok (.iconst 0, 1) := by decide +kernel
theorem dX3_isInCheapest_9 : decode cX3_isInCheapest 9 = .ok (.ireturn, 1) := by decide +kernel
theorem dX3_isInCheapest_10 : decode cX3_isInCheapest 10 = .ok (.aload_n 0, 1) := by decide +kernel
theorem dX3_isInCheapest_11 : decode cX3_isInCheapest 11 = .ok (.aload_n 1, 1) := by decide +kernel
theorem dX3_isInCheapest_12 : decode cX3_isInCheapest 12 = .ok (.invokevirtual 38, 3) := by decide +kernel
theorem dX3_isInCheapest_15 : decode cX3_isInCheapest 15 = .ok (.aload_n 0, 1) := by decide +kernel
theorem dX3_isInCheapest_16 : decode cX3_isInCheapest 16 = .ok (.invokevirtual 42, 3) := by decide +kernel
theorem dX3_isInCheapest_19 : decode cX3_isInCheapest 19 = .ok (.istore_n 3, 1) := by decide +kernel
theorem dX3_isInCheapest_20 : decode cX3_isInCheapest 20 = .ok (.aload_n 0, 1) := by decide +kernel
theorem dX3_isInCheapest_21 : decode cX3_isInCheapest 21 = .ok (.getfield 19, 3) := by decide +kernel
theorem dX3_isInCheapest_24 : decode cX3_isInCheapest 24 = .ok (.iload_n 3, 1) := by decide +kernel
theorem dX3_isInCheapest_25 : decode cX3_isInCheapest 25 = .ok (.bipush 36, 2) := by decide +kernel
theorem dX3_isInCheapest_27 : decode cX3_isInCheapest 27 = .ok (.imul, 1) := by decide +kernel
theorem dX3_isInCheapest_28 : decode cX3_isInCheapest 28 = .ok (.aload_n 0, 1) := by decide +kernel
theorem dX3_isInCheapest_29 : decode cX3_isInCheapest 29 = .ok (.getfield 9, 3) := by decide +kernel
theorem dX3_isInCheapest_32 : decode cX3_isInCheapest 32 = .ok (.iconst 0, 1) := by decide +kernel
theorem dX3_isInCheapest_33 : decode cX3_isInCheapest 33 = .ok (.iaload, 1) := by decide +kernel
theorem dX3_isInCheapest_34 : decode cX3_isInCheapest 34 = .ok (.iadd, 1) := by decide +kernel
theorem dX3_isInCheapest_35 : decode cX3_isInCheapest 35 = .ok (.iaload, 1) := by decide +kernel
theorem dX3_isInCheapest_36 : decode cX3_isInCheapest 36 = .ok (.istore 4, 2) := by decide +kernel
theorem dX3_isInCheapest_38 : decode cX3_isInCheapest 38 = .ok (.aload_n 1, 1) := by decide +kernel
theorem dX3_isInCheapest_39 : decode cX3_isInCheapest 39 = .ok (.iload_n 2, 1) := by decide +kernel
theorem dX3_isInCheapest_40 : decode cX3_isInCheapest 40 = .ok (.invokevirtual 46, 3) := by decide +kernel
theorem dX3_isInCheapest_43 : decode cX3_isInCheapest 43 = .ok (.istore 5, 2) := by decide +kernel
theorem dX3_isInCheapest_45 : decode cX3_isInCheapest 45 = .ok (.aload_n 1, 1) := by decide +kernel
theorem dX3_isInCheapest_46 : decode cX3_isInCheapest 46 = .ok (.iload_n 2, 1) := by decide +kernel
theorem dX3_isInCheapest_47 : decode cX3_isInCheapest 47 = .ok (.invokevirtual 52, 3) := by decide +kernel
theorem dX3_isInCheapest_50 : decode cX3_isInCheapest 50 = .ok (.istore 6, 2) := by decide +kernel
theorem dX3_isInCheapest_52 : decode cX3_isInCheapest 52 = .ok (.iconst 1, 1) := by decide +kernel
theorem dX3_isInCheapest_53 : decode cX3_isInCheapest 53 = .ok (.istore 7, 2) := by decide +kernel
theorem dX3_isInCheapest_55 : decode cX3_isInCheapest 55 = .ok (.iload 7, 2) := by decide +kernel
theorem dX3_isInCheapest_57 : decode cX3_isInCheapest 57 = .ok (.iload_n 3, 1) := by decide +kernel
theorem dX3_isInCheapest_58 : decode cX3_isInCheapest 58 = .ok (.if_icmp .ge 55, 3) := by decide +kernel
theorem dX3_isInCheapest_61 : decode cX3_isInCheapest 61 = .ok (.aload_n 0, 1) := by decide +kernel
theorem dX3_isInCheapest_62 : decode cX3_isInCheapest 62 = .ok (.getfield 19, 3) := by decide +kernel
theorem dX3_isInCheapest_65 : decode cX3_isInCheapest 65 = .ok (.iload 7, 2) := by decide +kernel
theorem dX3_isInCheapest_67 : decode cX3_isInCheapest 67 = .ok (.bipush 36, 2) := by decide +kernel
theorem dX3_isInCheapest_69 : decode cX3_isInCheapest 69 = .ok (.imul, 1) := by decide +kernel
theorem dX3_isInCheapest_70 : decode cX3_isInCheapest 70 = .ok (.iload 5, 2) := by decide +kernel
theorem dX3_isInCheapest_72 : decode cX3_isInCheapest 72 = .ok (.iadd, 1) := by decide +kernel
theorem dX3_isInCheapest_73 : decode cX3_isInCheapest 73 = .ok (.iaload, 1) := by decide +kernel
theorem dX3_isInCheapest_74 : decode cX3_isInCheapest 74 = .ok (.aload_n 0, 1) := by decide +kernel
theorem dX3_isInCheapest_75 : decode cX3_isInCheapest 75 = .ok (.getfield 19, 3) := by decide +kernel
theorem dX3_isInCheapest_78 : decode cX3_isInCheapest 78 = .ok (.iload_n 3, 1) := by decide +kernel
theorem dX3_isInCheapest_79 : decode cX3_isInCheapest 79 = .ok (.iload 7, 2) := by decide +kernel
theorem dX3_isInCheapest_81 : decode cX3_isInCheapest 81 = .ok (.isub, 1) := by decide +kernel
theorem dX3_isInCheapest_82 : decode cX3_isInCheapest 82 = .ok (.bipush 36, 2) := by decide +kernel
theorem dX3_isInCheapest_84 : decode cX3_isInCheapest 84 = .ok (.imul, 1) := by decide +kernel
theorem dX3_isInCheapest_85 : decode cX3_isInCheapest 85 = .ok (.iload 6, 2) := by decide +kernel
theorem dX3_isInCheapest_87 : decode cX3_isInCheapest 87 = .ok (.iadd, 1) := by decide +kernel
theorem dX3_isInCheapest_88 : decode cX3_isInCheapest 88 = .ok (.iaload, 1) := by decide +kernel
theorem dX3_isInCheapest_89 : decode cX3_isInCheapest 89 = .ok (.iadd, 1) := by decide +kernel
theorem dX3_isInCheapest_90 : decode cX3_isInCheapest 90 = .ok (.istore 8, 2) := by decide +kernel
theorem dX3_isInCheapest_92 : decode cX3_isInCheapest 92 = .ok (.iload 8, 2) := by decide +kernel
theorem dX3_isInCheapest_94 : decode cX3_isInCheapest 94 = .ok (.aload_n 1, 1) := by decide +kernel
theorem dX3_isInCheapest_95 : decode cX3_isInCheapest 95 = .ok (.iload_n 2, 1) := by decide +kernel
theorem dX3_isInCheapest_96 : decode cX3_isInCheapest 96 = .ok (.invokevirtual 55, 3) := by decide +kernel
theorem dX3_isInCheapest_99 : decode cX3_isInCheapest 99 = .ok (.iadd, 1) := by decide +kernel
theorem dX3_isInCheapest_100 : decode cX3_isInCheapest 100 = .ok (.iload 4, 2) := by decide +kernel
theorem dX3_isInCheapest_102 : decode cX3_isInCheapest 102 = .ok (.if_icmp .ne 5, 3) := by decide +kernel
theorem dX3_isInCheapest_105 : decode cX3_isInCheapest 105 = .ok (.iconst 1, 1) := by decide +kernel
theorem dX3_isInCheapest_106 : decode cX3_isInCheapest 106 = .ok (.ireturn, 1) := by decide +kernel
theorem dX3_isInCheapest_107 : decode cX3_isInCheapest 107 = .ok (.iinc 7 1, 3) := by decide +kernel
theorem dX3_isInCheapest_110 : decode cX3_isInCheapest 110 = .ok (.goto (-55), 3) := by decide +kernel
theorem dX3_isInCheapest_113 : decode cX3_isInCheapest 113 = .ok (.iconst 0, 1) := by decide +kernel
theorem dX3_isInCheapest_114 : decode cX3_isInCheapest 114 = .ok (.ireturn, 1) := by decide +kernel
theorem dX3_allTowns_0 : decode cX3_allTowns 0 = .ok (.iconst 1, 1) := by decide +kernel
theorem dX3_allTowns_1 : decode cX3_allTowns 1 = .ok (.aload_n 0, 1) := by decide +kernel
theorem dX3_allTowns_2 : decode cX3_allTowns 2 = .ok (.getfield 15, 3) := by decide +kernel
theorem dX3_allTowns_5 : decode cX3_allTowns 5 = .ok (.ishl, 1) := by decide +kernel
theorem dX3_allTowns_6 : decode cX3_allTowns 6 = .ok (.iconst 1, 1) := by decide +kernel
theorem dX3_allTowns_7 : decode cX3_allTowns 7 = .ok (.isub, 1) := by decide +kernel
theorem dX3_allTowns_8 : decode cX3_allTowns 8 = .ok (.ireturn, 1) := by decide +kernel
set_option maxRecDepth 20000 in
theorem ggX3_joinAll_X2_measure : GoodIn wsX3_joinAll wsX2_measure := goodIn_r _ [9, 10, 11, 12, 13, 8, 14, 15, 16, 17, 18, 19, 20, 21, 51, 52, 53, 54, 55, 56, 57] (by decide +kernel) (by decide +kernel)
set_option maxRecDepth 20000 in
theorem gX3_joinAll_X2_measure : GoodIn wsX3_joinAll (wsV RX3 58 RX2 yX2_measure wsX2_measure) := goodIn_app (goodIn_of _ (by decide +kernel)) ggX3_joinAll_X2_measure
set_option maxRecDepth 20000 in
theorem ggX3_joinAll_X3_allTowns : GoodIn wsX3_joinAll wsX3_allTowns := goodIn_r _ [26, 2, 44, 45, 46, 47, 48, 49, 50] (by decide +kernel) (by decide +kernel)
set_option maxRecDepth 20000 in
theorem gX3_joinAll_X3_allTowns : GoodIn wsX3_joinAll (wsV RX3 42 RX3 yX3_allTowns wsX3_allTowns) := goodIn_app (goodIn_of _ (by decide +kernel)) ggX3_joinAll_X3_allTowns
set_option maxRecDepth 20000 in
theorem ggX3_joinAll_J6_bitCount_0f7a4 : GoodIn wsX3_joinAll wsJ6_bitCount_0f7a4 := goodIn_r _ [30, 31, 32, 33] (by decide +kernel) (by decide +kernel)
set_option maxRecDepth 20000 in
theorem gX3_joinAll_J6_bitCount_0f7a4 : GoodIn wsX3_joinAll (va_wsS RX3 62 yJ6_bitCount_0f7a4 wsJ6_bitCount_0f7a4) := goodIn_app (goodIn_of _ (by decide +kernel)) ggX3_joinAll_J6_bitCount_0f7a4
set_option maxRecDepth 20000 in
theorem ggX3_joinAll_X3_joinParts : GoodIn wsX3_joinAll wsX3_joinParts := goodIn_r _ [37, 3, 38, 39, 40, 41, 42, 44, 45, 46, 47, 48, 49, 50] (by decide +kernel) (by decide +kernel)
set_option maxRecDepth 20000 in
theorem gX3_joinAll_X3_joinParts : GoodIn wsX3_joinAll (wsV RX3 67 RX3 yX3_joinParts wsX3_joinParts) := goodIn_app (goodIn_of _ (by decide +kernel)) ggX3_joinAll_X3_joinParts
set_option maxRecDepth 20000 in
theorem ggX3_joinAll_X2_settle : GoodIn wsX3_joinAll wsX2_settle := goodIn_r _ [14, 15, 16, 17, 8, 18, 19, 20, 21, 51, 52, 53, 54, 55, 56, 57] (by decide +kernel) (by decide +kernel)
set_option maxRecDepth 20000 in
theorem gX3_joinAll_X2_settle : GoodIn wsX3_joinAll (wsV RX3 71 RX2 yX2_settle wsX2_settle) := goodIn_app (goodIn_of _ (by decide +kernel)) ggX3_joinAll_X2_settle
theorem dX3_joinAll_0 : decode cX3_joinAll 0 = .ok (.aload_n 0, 1) := by decide +kernel
theorem dX3_joinAll_1 : decode cX3_joinAll 1 = .ok (.getfield 22, 3) := by decide +kernel
theorem dX3_joinAll_4 : decode cX3_joinAll 4 = .ok (.ifCond .eq 4, 3) := by decide +kernel
theorem dX3_joinAll_7 : decode cX3_joinAll 7 = .ok (.return_, 1) := by decide +kernel
theorem dX3_joinAll_8 : decode cX3_joinAll 8 = .ok (.iconst 0, 1) := by decide +kernel
theorem dX3_joinAll_9 : decode cX3_joinAll 9 = .ok (.istore_n 2, 1) := by decide +kernel
theorem dX3_joinAll_10 : decode cX3_joinAll 10 = .ok (.iload_n 2, 1) := by decide +kernel
theorem dX3_joinAll_11 : decode cX3_joinAll 11 = .ok (.aload_n 0, 1) := by decide +kernel
theorem dX3_joinAll_12 : decode cX3_joinAll 12 = .ok (.getfield 15, 3) := by decide +kernel
theorem dX3_joinAll_15 : decode cX3_joinAll 15 = .ok (.if_icmp .ge 29, 3) := by decide +kernel
theorem dX3_joinAll_18 : decode cX3_joinAll 18 = .ok (.aload_n 1, 1) := by decide +kernel
theorem dX3_joinAll_19 : decode cX3_joinAll 19 = .ok (.aload_n 0, 1) := by decide +kernel
theorem dX3_joinAll_20 : decode cX3_joinAll 20 = .ok (.getfield 19, 3) := by decide +kernel
theorem dX3_joinAll_23 : decode cX3_joinAll 23 = .ok (.iconst 1, 1) := by decide +kernel
theorem dX3_joinAll_24 : decode cX3_joinAll 24 = .ok (.iload_n 2, 1) := by decide +kernel
theorem dX3_joinAll_25 : decode cX3_joinAll 25 = .ok (.ishl, 1) := by decide +kernel
theorem dX3_joinAll_26 : decode cX3_joinAll 26 = .ok (.bipush 36, 2) := by decide +kernel
theorem dX3_joinAll_28 : decode cX3_joinAll 28 = .ok (.imul, 1) := by decide +kernel
theorem dX3_joinAll_29 : decode cX3_joinAll 29 = .ok (.aload_n 0, 1) := by decide +kernel
theorem dX3_joinAll_30 : decode cX3_joinAll 30 = .ok (.getfield 9, 3) := by decide +kernel
theorem dX3_joinAll_33 : decode cX3_joinAll 33 = .ok (.iload_n 2, 1) := by decide +kernel
theorem dX3_joinAll_34 : decode cX3_joinAll 34 = .ok (.iaload, 1) := by decide +kernel
theorem dX3_joinAll_35 : decode cX3_joinAll 35 = .ok (.invokevirtual 58, 3) := by decide +kernel
theorem dX3_joinAll_38 : decode cX3_joinAll 38 = .ok (.iinc 2 1, 3) := by decide +kernel
theorem dX3_joinAll_41 : decode cX3_joinAll 41 = .ok (.goto (-31), 3) := by decide +kernel
theorem dX3_joinAll_44 : decode cX3_joinAll 44 = .ok (.aload_n 0, 1) := by decide +kernel
theorem dX3_joinAll_45 : decode cX3_joinAll 45 = .ok (.invokevirtual 42, 3) := by decide +kernel
theorem dX3_joinAll_48 : decode cX3_joinAll 48 = .ok (.istore_n 2, 1) := by decide +kernel
theorem dX3_joinAll_49 : decode cX3_joinAll 49 = .ok (.iconst 1, 1) := by decide +kernel
theorem dX3_joinAll_50 : decode cX3_joinAll 50 = .ok (.istore_n 3, 1) := by decide +kernel
theorem dX3_joinAll_51 : decode cX3_joinAll 51 = .ok (.iload_n 3, 1) := by decide +kernel
theorem dX3_joinAll_52 : decode cX3_joinAll 52 = .ok (.iload_n 2, 1) := by decide +kernel
theorem dX3_joinAll_53 : decode cX3_joinAll 53 = .ok (.if_icmp .gt 34, 3) := by decide +kernel
theorem dX3_joinAll_56 : decode cX3_joinAll 56 = .ok (.iload_n 3, 1) := by decide +kernel
theorem dX3_joinAll_57 : decode cX3_joinAll 57 = .ok (.invokestatic 62, 3) := by decide +kernel
theorem dX3_joinAll_60 : decode cX3_joinAll 60 = .ok (.iconst 1, 1) := by decide +kernel
theorem dX3_joinAll_61 : decode cX3_joinAll 61 = .ok (.if_icmp .le 20, 3) := by decide +kernel
theorem dX3_joinAll_64 : decode cX3_joinAll 64 = .ok (.aload_n 0, 1) := by decide +kernel
theorem dX3_joinAll_65 : decode cX3_joinAll 65 = .ok (.iload_n 3, 1) := by decide +kernel
theorem dX3_joinAll_66 : decode cX3_joinAll 66 = .ok (.invokevirtual 67, 3) := by decide +kernel
theorem dX3_joinAll_69 : decode cX3_joinAll 69 = .ok (.aload_n 1, 1) := by decide +kernel
theorem dX3_joinAll_70 : decode cX3_joinAll 70 = .ok (.aload_n 0, 1) := by decide +kernel
theorem dX3_joinAll_71 : decode cX3_joinAll 71 = .ok (.getfield 19, 3) := by decide +kernel
theorem dX3_joinAll_74 : decode cX3_joinAll 74 = .ok (.iload_n 3, 1) := by decide +kernel
theorem dX3_joinAll_75 : decode cX3_joinAll 75 = .ok (.bipush 36, 2) := by decide +kernel
theorem dX3_joinAll_77 : decode cX3_joinAll 77 = .ok (.imul, 1) := by decide +kernel
theorem dX3_joinAll_78 : decode cX3_joinAll 78 = .ok (.invokevirtual 71, 3) := by decide +kernel
theorem dX3_joinAll_81 : decode cX3_joinAll 81 = .ok (.iinc 3 1, 3) := by decide +kernel
theorem dX3_joinAll_84 : decode cX3_joinAll 84 = .ok (.goto (-33), 3) := by decide +kernel
theorem dX3_joinAll_87 : decode cX3_joinAll 87 = .ok (.aload_n 0, 1) := by decide +kernel
theorem dX3_joinAll_88 : decode cX3_joinAll 88 = .ok (.iconst 1, 1) := by decide +kernel
theorem dX3_joinAll_89 : decode cX3_joinAll 89 = .ok (.putfield 22, 3) := by decide +kernel
theorem dX3_joinAll_92 : decode cX3_joinAll 92 = .ok (.return_, 1) := by decide +kernel
theorem dX3_joinParts_0 : decode cX3_joinParts 0 = .ok (.iload_n 1, 1) := by decide +kernel
theorem dX3_joinParts_1 : decode cX3_joinParts 1 = .ok (.bipush 36, 2) := by decide +kernel
theorem dX3_joinParts_3 : decode cX3_joinParts 3 = .ok (.imul, 1) := by decide +kernel
theorem dX3_joinParts_4 : decode cX3_joinParts 4 = .ok (.istore_n 2, 1) := by decide +kernel
theorem dX3_joinParts_5 : decode cX3_joinParts 5 = .ok (.iconst 0, 1) := by decide +kernel
theorem dX3_joinParts_6 : decode cX3_joinParts 6 = .ok (.istore_n 3, 1) := by decide +kernel
theorem dX3_joinParts_7 : decode cX3_joinParts 7 = .ok (.iload_n 3, 1) := by decide +kernel
theorem dX3_joinParts_8 : decode cX3_joinParts 8 = .ok (.bipush 36, 2) := by decide +kernel
theorem dX3_joinParts_10 : decode cX3_joinParts 10 = .ok (.if_icmp .ge 19, 3) := by decide +kernel
theorem dX3_joinParts_13 : decode cX3_joinParts 13 = .ok (.aload_n 0, 1) := by decide +kernel
theorem dX3_joinParts_14 : decode cX3_joinParts 14 = .ok (.getfield 19, 3) := by decide +kernel
theorem dX3_joinParts_17 : decode cX3_joinParts 17 = .ok (.iload_n 2, 1) := by decide +kernel
theorem dX3_joinParts_18 : decode cX3_joinParts 18 = .ok (.iload_n 3, 1) := by decide +kernel
theorem dX3_joinParts_19 : decode cX3_joinParts 19 = .ok (.iadd, 1) := by decide +kernel
theorem dX3_joinParts_20 : decode cX3_joinParts 20 = .ok (.ldc 75, 2) := by decide +kernel
theorem dX3_joinParts_22 : decode cX3_joinParts 22 = .ok (.iastore, 1) := by decide +kernel
theorem dX3_joinParts_23 : decode cX3_joinParts 23 = .ok (.iinc 3 1, 3) := by decide +kernel
theorem dX3_joinParts_26 : decode cX3_joinParts 26 = .ok (.goto (-19), 3) := by decide +kernel
theorem dX3_joinParts_29 : decode cX3_joinParts 29 = .ok (.iconst 1, 1) := by decide +kernel
theorem dX3_joinParts_30 : decode cX3_joinParts 30 = .ok (.istore_n 3, 1) := by decide +kernel
theorem dX3_joinParts_31 : decode cX3_joinParts 31 = .ok (.iload_n 3, 1) := by decide +kernel
theorem dX3_joinParts_32 : decode cX3_joinParts 32 = .ok (.iload_n 1, 1) := by decide +kernel
theorem dX3_joinParts_33 : decode cX3_joinParts 33 = .ok (.if_icmp .ge 94, 3) := by decide +kernel
theorem dX3_joinParts_36 : decode cX3_joinParts 36 = .ok (.iload_n 1, 1) := by decide +kernel
theorem dX3_joinParts_37 : decode cX3_joinParts 37 = .ok (.iload_n 3, 1) := by decide +kernel
theorem dX3_joinParts_38 : decode cX3_joinParts 38 = .ok (.isub, 1) := by decide +kernel
theorem dX3_joinParts_39 : decode cX3_joinParts 39 = .ok (.istore 4, 2) := by decide +kernel
theorem dX3_joinParts_41 : decode cX3_joinParts 41 = .ok (.iload_n 3, 1) := by decide +kernel
theorem dX3_joinParts_42 : decode cX3_joinParts 42 = .ok (.iload_n 1, 1) := by decide +kernel
theorem dX3_joinParts_43 : decode cX3_joinParts 43 = .ok (.iand, 1) := by decide +kernel
theorem dX3_joinParts_44 : decode cX3_joinParts 44 = .ok (.iload_n 3, 1) := by decide +kernel
theorem dX3_joinParts_45 : decode cX3_joinParts 45 = .ok (.if_icmp .ne 76, 3) := by decide +kernel
theorem dX3_joinParts_48 : decode cX3_joinParts 48 = .ok (.iload_n 3, 1) := by decide +kernel
theorem dX3_joinParts_49 : decode cX3_joinParts 49 = .ok (.iload 4, 2) := by decide +kernel
theorem dX3_joinParts_51 : decode cX3_joinParts 51 = .ok (.if_icmp .ge 70, 3) := by decide +kernel
theorem dX3_joinParts_54 : decode cX3_joinParts 54 = .ok (.iconst 0, 1) := by decide +kernel
theorem dX3_joinParts_55 : decode cX3_joinParts 55 = .ok (.istore 5, 2) := by decide +kernel
theorem dX3_joinParts_57 : decode cX3_joinParts 57 = .ok (.iload 5, 2) := by decide +kernel
theorem dX3_joinParts_59 : decode cX3_joinParts 59 = .ok (.bipush 36, 2) := by decide +kernel
theorem dX3_joinParts_61 : decode cX3_joinParts 61 = .ok (.if_icmp .ge 60, 3) := by decide +kernel
theorem dX3_joinParts_64 : decode cX3_joinParts 64 = .ok (.aload_n 0, 1) := by decide +kernel
theorem dX3_joinParts_65 : decode cX3_joinParts 65 = .ok (.getfield 19, 3) := by decide +kernel
theorem dX3_joinParts_68 : decode cX3_joinParts 68 = .ok (.iload_n 3, 1) := by decide +kernel
theorem dX3_joinParts_69 : decode cX3_joinParts 69 = .ok (.bipush 36, 2) := by decide +kernel
theorem dX3_joinParts_71 : decode cX3_joinParts 71 = .ok (.imul, 1) := by decide +kernel
theorem dX3_joinParts_72 : decode cX3_joinParts 72 = .ok (.iload 5, 2) := by decide +kernel
theorem dX3_joinParts_74 : decode cX3_joinParts 74 = .ok (.iadd, 1) := by decide +kernel
theorem dX3_joinParts_75 : decode cX3_joinParts 75 = .ok (.iaload, 1) := by decide +kernel
theorem dX3_joinParts_76 : decode cX3_joinParts 76 = .ok (.aload_n 0, 1) := by decide +kernel
theorem dX3_joinParts_77 : decode cX3_joinParts 77 = .ok (.getfield 19, 3) := by decide +kernel
theorem dX3_joinParts_80 : decode cX3_joinParts 80 = .ok (.iload 4, 2) := by decide +kernel
theorem dX3_joinParts_82 : decode cX3_joinParts 82 = .ok (.bipush 36, 2) := by decide +kernel
theorem dX3_joinParts_84 : decode cX3_joinParts 84 = .ok (.imul, 1) := by decide +kernel
theorem dX3_joinParts_85 : decode cX3_joinParts 85 = .ok (.iload 5, 2) := by decide +kernel
theorem dX3_joinParts_87 : decode cX3_joinParts 87 = .ok (.iadd, 1) := by decide +kernel
theorem dX3_joinParts_88 : decode cX3_joinParts 88 = .ok (.iaload, 1) := by decide +kernel
theorem dX3_joinParts_89 : decode cX3_joinParts 89 = .ok (.iadd, 1) := by decide +kernel
theorem dX3_joinParts_90 : decode cX3_joinParts 90 = .ok (.istore 6, 2) := by decide +kernel
theorem dX3_joinParts_92 : decode cX3_joinParts 92 = .ok (.aload_n 0, 1) := by decide +kernel
theorem dX3_joinParts_93 : decode cX3_joinParts 93 = .ok (.getfield 19, 3) := by decide +kernel
theorem dX3_joinParts_96 : decode cX3_joinParts 96 = .ok (.iload_n 2, 1) := by decide +kernel
theorem dX3_joinParts_97 : decode cX3_joinParts 97 = .ok (.iload 5, 2) := by decide +kernel
theorem dX3_joinParts_99 : decode cX3_joinParts 99 = .ok (.iadd, 1) := by decide +kernel
theorem dX3_joinParts_100 : decode cX3_joinParts 100 = .ok (.aload_n 0, 1) := by decide +kernel
theorem dX3_joinParts_101 : decode cX3_joinParts 101 = .ok (.getfield 19, 3) := by decide +kernel
theorem dX3_joinParts_104 : decode cX3_joinParts 104 = .ok (.iload_n 2, 1) := by decide +kernel
theorem dX3_joinParts_105 : decode cX3_joinParts 105 = .ok (.iload 5, 2) := by decide +kernel
theorem dX3_joinParts_107 : decode cX3_joinParts 107 = .ok (.iadd, 1) := by decide +kernel
theorem dX3_joinParts_108 : decode cX3_joinParts 108 = .ok (.iaload, 1) := by decide +kernel
theorem dX3_joinParts_109 : decode cX3_joinParts 109 = .ok (.iload 6, 2) := by decide +kernel
theorem dX3_joinParts_111 : decode cX3_joinParts 111 = .ok (.invokestatic 76, 3) := by decide +kernel
theorem dX3_joinParts_114 : decode cX3_joinParts 114 = .ok (.iastore, 1) := by decide +kernel
theorem dX3_joinParts_115 : decode cX3_joinParts 115 = .ok (.iinc 5 1, 3) := by decide +kernel
theorem dX3_joinParts_118 : decode cX3_joinParts 118 = .ok (.goto (-61), 3) := by decide +kernel
theorem dX3_joinParts_121 : decode cX3_joinParts 121 = .ok (.iinc 3 1, 3) := by decide +kernel
theorem dX3_joinParts_124 : decode cX3_joinParts 124 = .ok (.goto (-93), 3) := by decide +kernel
theorem dX3_joinParts_127 : decode cX3_joinParts 127 = .ok (.return_, 1) := by decide +kernel
set_option maxRecDepth 20000 in
theorem ggX3_cheapestOfShapes_X3_measureTowns : GoodIn wsX3_cheapestOfShapes wsX3_measureTowns := goodIn_r _ [12, 1, 13, 14, 15, 16, 17, 18, 19, 20, 21, 22, 23, 24, 25, 26, 27, 28, 29, 30, 31, 36, 37, 38, 39, 40, 41, 42, 43, 44, 45, 46, 47, 48, 49] (by decide +kernel) (by decide +kernel)
set_option maxRecDepth 20000 in
theorem gX3_cheapestOfShapes_X3_measureTowns : GoodIn wsX3_cheapestOfShapes (wsV RX3 82 RX3 yX3_measureTowns wsX3_measureTowns) := goodIn_app (goodIn_of _ (by decide +kernel)) ggX3_cheapestOfShapes_X3_measureTowns
set_option maxRecDepth 20000 in
theorem ggX3_cheapestOfShapes_X2_measure : GoodIn wsX3_cheapestOfShapes wsX2_measure := goodIn_r _ [19, 20, 21, 22, 23, 18, 24, 25, 26, 27, 28, 29, 30, 31, 43, 44, 45, 46, 47, 48, 49] (by decide +kernel) (by decide +kernel)
set_option maxRecDepth 20000 in
theorem gX3_cheapestOfShapes_X2_measure : GoodIn wsX3_cheapestOfShapes (wsV RX3 58 RX2 yX2_measure wsX2_measure) := goodIn_app (goodIn_of _ (by decide +kernel)) ggX3_cheapestOfShapes_X2_measure
set_option maxRecDepth 20000 in
theorem ggX3_cheapestOfShapes_X3_hungOn : GoodIn wsX3_cheapestOfShapes wsX3_hungOn := goodIn_r _ [35, 1, 13, 4, 5, 6, 7, 36, 37, 38, 39, 40, 41, 42] (by decide +kernel) (by decide +kernel)
set_option maxRecDepth 20000 in
theorem gX3_cheapestOfShapes_X3_hungOn : GoodIn wsX3_cheapestOfShapes (wsV RX3 85 RX3 yX3_hungOn wsX3_hungOn) := goodIn_app (goodIn_of _ (by decide +kernel)) ggX3_cheapestOfShapes_X3_hungOn
theorem dX3_cheapestOfShapes_0 : decode cX3_cheapestOfShapes 0 = .ok (.aload_n 0, 1) := by decide +kernel
theorem dX3_cheapestOfShapes_1 : decode cX3_cheapestOfShapes 1 = .ok (.getfield 15, 3) := by decide +kernel
theorem dX3_cheapestOfShapes_4 : decode cX3_cheapestOfShapes 4 = .ok (.iconst 4, 1) := by decide +kernel
theorem dX3_cheapestOfShapes_5 : decode cX3_cheapestOfShapes 5 = .ok (.if_icmp .le 5, 3) := by decide +kernel
theorem dX3_cheapestOfShapes_8 : decode cX3_cheapestOfShapes 8 = .ok (.iconst (-1), 1) := by decide +kernel
theorem dX3_cheapestOfShapes_9 : decode cX3_cheapestOfShapes 9 = .ok (.ireturn, 1) := by decide +kernel
theorem dX3_cheapestOfShapes_10 : decode cX3_cheapestOfShapes 10 = .ok (.aload_n 0, 1) := by decide +kernel
theorem dX3_cheapestOfShapes_11 : decode cX3_cheapestOfShapes 11 = .ok (.getfield 15, 3) := by decide +kernel
theorem dX3_cheapestOfShapes_14 : decode cX3_cheapestOfShapes 14 = .ok (.iconst 2, 1) := by decide +kernel
theorem dX3_cheapestOfShapes_15 : decode cX3_cheapestOfShapes 15 = .ok (.if_icmp .ge 5, 3) := by decide +kernel
theorem dX3_cheapestOfShapes_18 : decode cX3_cheapestOfShapes 18 = .ok (.iconst 0, 1) := by decide +kernel
theorem dX3_cheapestOfShapes_19 : decode cX3_cheapestOfShapes 19 = .ok (.ireturn, 1) := by decide +kernel
theorem dX3_cheapestOfShapes_20 : decode cX3_cheapestOfShapes 20 = .ok (.aload_n 0, 1) := by decide +kernel
theorem dX3_cheapestOfShapes_21 : decode cX3_cheapestOfShapes 21 = .ok (.aload_n 1, 1) := by decide +kernel
theorem dX3_cheapestOfShapes_22 : decode cX3_cheapestOfShapes 22 = .ok (.invokevirtual 82, 3) := by decide +kernel
theorem dX3_cheapestOfShapes_25 : decode cX3_cheapestOfShapes 25 = .ok (.ldc 75, 2) := by decide +kernel
theorem dX3_cheapestOfShapes_27 : decode cX3_cheapestOfShapes 27 = .ok (.istore_n 2, 1) := by decide +kernel
theorem dX3_cheapestOfShapes_28 : decode cX3_cheapestOfShapes 28 = .ok (.iconst 0, 1) := by decide +kernel
theorem dX3_cheapestOfShapes_29 : decode cX3_cheapestOfShapes 29 = .ok (.istore_n 3, 1) := by decide +kernel
theorem dX3_cheapestOfShapes_30 : decode cX3_cheapestOfShapes 30 = .ok (.iload_n 3, 1) := by decide +kernel
theorem dX3_cheapestOfShapes_31 : decode cX3_cheapestOfShapes 31 = .ok (.bipush 36, 2) := by decide +kernel
theorem dX3_cheapestOfShapes_33 : decode cX3_cheapestOfShapes 33 = .ok (.if_icmp .ge 55, 3) := by decide +kernel
theorem dX3_cheapestOfShapes_36 : decode cX3_cheapestOfShapes 36 = .ok (.aload_n 1, 1) := by decide +kernel
theorem dX3_cheapestOfShapes_37 : decode cX3_cheapestOfShapes 37 = .ok (.aload_n 0, 1) := by decide +kernel
theorem dX3_cheapestOfShapes_38 : decode cX3_cheapestOfShapes 38 = .ok (.getfield 29, 3) := by decide +kernel
theorem dX3_cheapestOfShapes_41 : decode cX3_cheapestOfShapes 41 = .ok (.iconst 0, 1) := by decide +kernel
theorem dX3_cheapestOfShapes_42 : decode cX3_cheapestOfShapes 42 = .ok (.iload_n 3, 1) := by decide +kernel
theorem dX3_cheapestOfShapes_43 : decode cX3_cheapestOfShapes 43 = .ok (.invokevirtual 58, 3) := by decide +kernel
theorem dX3_cheapestOfShapes_46 : decode cX3_cheapestOfShapes 46 = .ok (.iload_n 3, 1) := by decide +kernel
theorem dX3_cheapestOfShapes_47 : decode cX3_cheapestOfShapes 47 = .ok (.istore 4, 2) := by decide +kernel
theorem dX3_cheapestOfShapes_49 : decode cX3_cheapestOfShapes 49 = .ok (.iload 4, 2) := by decide +kernel
theorem dX3_cheapestOfShapes_51 : decode cX3_cheapestOfShapes 51 = .ok (.bipush 36, 2) := by decide +kernel
theorem dX3_cheapestOfShapes_53 : decode cX3_cheapestOfShapes 53 = .ok (.if_icmp .ge 29, 3) := by decide +kernel
theorem dX3_cheapestOfShapes_56 : decode cX3_cheapestOfShapes 56 = .ok (.iload_n 2, 1) := by decide +kernel
theorem dX3_cheapestOfShapes_57 : decode cX3_cheapestOfShapes 57 = .ok (.aload_n 0, 1) := by decide +kernel
theorem dX3_cheapestOfShapes_58 : decode cX3_cheapestOfShapes 58 = .ok (.getfield 29, 3) := by decide +kernel
theorem dX3_cheapestOfShapes_61 : decode cX3_cheapestOfShapes 61 = .ok (.iload 4, 2) := by decide +kernel
theorem dX3_cheapestOfShapes_63 : decode cX3_cheapestOfShapes 63 = .ok (.iaload, 1) := by decide +kernel
theorem dX3_cheapestOfShapes_64 : decode cX3_cheapestOfShapes 64 = .ok (.aload_n 0, 1) := by decide +kernel
theorem dX3_cheapestOfShapes_65 : decode cX3_cheapestOfShapes 65 = .ok (.iload_n 3, 1) := by decide +kernel
theorem dX3_cheapestOfShapes_66 : decode cX3_cheapestOfShapes 66 = .ok (.iload 4, 2) := by decide +kernel
theorem dX3_cheapestOfShapes_68 : decode cX3_cheapestOfShapes 68 = .ok (.invokevirtual 85, 3) := by decide +kernel
theorem dX3_cheapestOfShapes_71 : decode cX3_cheapestOfShapes 71 = .ok (.iadd, 1) := by decide +kernel
theorem dX3_cheapestOfShapes_72 : decode cX3_cheapestOfShapes 72 = .ok (.invokestatic 76, 3) := by decide +kernel
theorem dX3_cheapestOfShapes_75 : decode cX3_cheapestOfShapes 75 = .ok (.istore_n 2, 1) := by decide +kernel
theorem dX3_cheapestOfShapes_76 : decode cX3_cheapestOfShapes 76 = .ok (.iinc 4 1, 3) := by decide +kernel
theorem dX3_cheapestOfShapes_79 : decode cX3_cheapestOfShapes 79 = .ok (.goto (-30), 3) := by decide +kernel
theorem dX3_cheapestOfShapes_82 : decode cX3_cheapestOfShapes 82 = .ok (.iinc 3 1, 3) := by decide +kernel
theorem dX3_cheapestOfShapes_85 : decode cX3_cheapestOfShapes 85 = .ok (.goto (-55), 3) := by decide +kernel
theorem dX3_cheapestOfShapes_88 : decode cX3_cheapestOfShapes 88 = .ok (.iload_n 2, 1) := by decide +kernel
theorem dX3_cheapestOfShapes_89 : decode cX3_cheapestOfShapes 89 = .ok (.ireturn, 1) := by decide +kernel
theorem dX3_hungOn_0 : decode cX3_hungOn 0 = .ok (.iconst 0, 1) := by decide +kernel
theorem dX3_hungOn_1 : decode cX3_hungOn 1 = .ok (.istore_n 3, 1) := by decide +kernel
theorem dX3_hungOn_2 : decode cX3_hungOn 2 = .ok (.iconst 0, 1) := by decide +kernel
theorem dX3_hungOn_3 : decode cX3_hungOn 3 = .ok (.istore 4, 2) := by decide +kernel
theorem dX3_hungOn_5 : decode cX3_hungOn 5 = .ok (.iload 4, 2) := by decide +kernel
theorem dX3_hungOn_7 : decode cX3_hungOn 7 = .ok (.aload_n 0, 1) := by decide +kernel
theorem dX3_hungOn_8 : decode cX3_hungOn 8 = .ok (.getfield 15, 3) := by decide +kernel
theorem dX3_hungOn_11 : decode cX3_hungOn 11 = .ok (.if_icmp .ge 39, 3) := by decide +kernel
theorem dX3_hungOn_14 : decode cX3_hungOn 14 = .ok (.iload_n 3, 1) := by decide +kernel
theorem dX3_hungOn_15 : decode cX3_hungOn 15 = .ok (.aload_n 0, 1) := by decide +kernel
theorem dX3_hungOn_16 : decode cX3_hungOn 16 = .ok (.getfield 26, 3) := by decide +kernel
theorem dX3_hungOn_19 : decode cX3_hungOn 19 = .ok (.iload 4, 2) := by decide +kernel
theorem dX3_hungOn_21 : decode cX3_hungOn 21 = .ok (.bipush 36, 2) := by decide +kernel
theorem dX3_hungOn_23 : decode cX3_hungOn 23 = .ok (.imul, 1) := by decide +kernel
theorem dX3_hungOn_24 : decode cX3_hungOn 24 = .ok (.iload_n 1, 1) := by decide +kernel
theorem dX3_hungOn_25 : decode cX3_hungOn 25 = .ok (.iadd, 1) := by decide +kernel
theorem dX3_hungOn_26 : decode cX3_hungOn 26 = .ok (.iaload, 1) := by decide +kernel
theorem dX3_hungOn_27 : decode cX3_hungOn 27 = .ok (.aload_n 0, 1) := by decide +kernel
theorem dX3_hungOn_28 : decode cX3_hungOn 28 = .ok (.getfield 26, 3) := by decide +kernel
theorem dX3_hungOn_31 : decode cX3_hungOn 31 = .ok (.iload 4, 2) := by decide +kernel
theorem dX3_hungOn_33 : decode cX3_hungOn 33 = .ok (.bipush 36, 2) := by decide +kernel
theorem dX3_hungOn_35 : decode cX3_hungOn 35 = .ok (.imul, 1) := by decide +kernel
theorem dX3_hungOn_36 : decode cX3_hungOn 36 = .ok (.iload_n 2, 1) := by decide +kernel
theorem dX3_hungOn_37 : decode cX3_hungOn 37 = .ok (.iadd, 1) := by decide +kernel
theorem dX3_hungOn_38 : decode cX3_hungOn 38 = .ok (.iaload, 1) := by decide +kernel
theorem dX3_hungOn_39 : decode cX3_hungOn 39 = .ok (.invokestatic 76, 3) := by decide +kernel
theorem dX3_hungOn_42 : decode cX3_hungOn 42 = .ok (.iadd, 1) := by decide +kernel
theorem dX3_hungOn_43 : decode cX3_hungOn 43 = .ok (.istore_n 3, 1) := by decide +kernel
theorem dX3_hungOn_44 : decode cX3_hungOn 44 = .ok (.iinc 4 1, 3) := by decide +kernel
theorem dX3_hungOn_47 : decode cX3_hungOn 47 = .ok (.goto (-42), 3) := by decide +kernel
theorem dX3_hungOn_50 : decode cX3_hungOn 50 = .ok (.iload_n 3, 1) := by decide +kernel
theorem dX3_hungOn_51 : decode cX3_hungOn 51 = .ok (.ireturn, 1) := by decide +kernel
set_option maxRecDepth 20000 in
theorem ggX3_lowerBound_X3_measureTowns : GoodIn wsX3_lowerBound wsX3_measureTowns := goodIn_r _ [10, 1, 11, 12, 13, 14, 15, 16, 17, 18, 19, 20, 21, 22, 23, 24, 25, 26, 27, 28, 29, 57, 58, 59, 60, 61, 62, 63, 64, 65, 66, 67, 68, 69, 70] (by decide +kernel) (by decide +kernel)
set_option maxRecDepth 20000 in
theorem gX3_lowerBound_X3_measureTowns : GoodIn wsX3_lowerBound (wsV RX3 82 RX3 yX3_measureTowns wsX3_measureTowns) := goodIn_app (goodIn_of _ (by decide +kernel)) ggX3_lowerBound_X3_measureTowns
set_option maxRecDepth 20000 in
theorem ggX3_lowerBound_X3_cheapestPairs : GoodIn wsX3_lowerBound wsX3_cheapestPairs := goodIn_r _ [33, 1, 34, 35, 36, 4, 37, 38, 39, 40, 9, 41, 11, 12, 42, 43, 44, 45, 57, 58, 59, 60, 61, 62, 63] (by decide +kernel) (by decide +kernel)
set_option maxRecDepth 20000 in
theorem gX3_lowerBound_X3_cheapestPairs : GoodIn wsX3_lowerBound (wsV RX3 88 RX3 yX3_cheapestPairs wsX3_cheapestPairs) := goodIn_app (goodIn_of _ (by decide +kernel)) ggX3_lowerBound_X3_cheapestPairs
set_option maxRecDepth 20000 in
theorem ggX3_lowerBound_X3_halfUp : GoodIn wsX3_lowerBound wsX3_halfUp := goodIn_r _ [48] (by decide +kernel) (by decide +kernel)
set_option maxRecDepth 20000 in
theorem gX3_lowerBound_X3_halfUp : GoodIn wsX3_lowerBound (va_wsS RX3 91 yX3_halfUp wsX3_halfUp) := goodIn_app (goodIn_of _ (by decide +kernel)) ggX3_lowerBound_X3_halfUp
set_option maxRecDepth 20000 in
theorem ggX3_lowerBound_X3_farthestPair : GoodIn wsX3_lowerBound wsX3_farthestPair := goodIn_r _ [52, 1, 2, 3, 4, 5, 38, 39, 40, 9, 41, 11, 12, 57, 58, 59, 60, 61, 62, 63] (by decide +kernel) (by decide +kernel)
set_option maxRecDepth 20000 in
theorem gX3_lowerBound_X3_farthestPair : GoodIn wsX3_lowerBound (wsV RX3 94 RX3 yX3_farthestPair wsX3_farthestPair) := goodIn_app (goodIn_of _ (by decide +kernel)) ggX3_lowerBound_X3_farthestPair
set_option maxRecDepth 20000 in
theorem ggX3_lowerBound_X3_farthestThree : GoodIn wsX3_lowerBound wsX3_farthestThree := goodIn_r _ [56, 1, 2, 3, 4, 5, 38, 39, 40, 9, 41, 11, 12, 57, 58, 59, 60, 61, 62, 63] (by decide +kernel) (by decide +kernel)
set_option maxRecDepth 20000 in
theorem gX3_lowerBound_X3_farthestThree : GoodIn wsX3_lowerBound (wsV RX3 97 RX3 yX3_farthestThree wsX3_farthestThree) := goodIn_app (goodIn_of _ (by decide +kernel)) ggX3_lowerBound_X3_farthestThree
theorem dX3_lowerBound_0 : decode cX3_lowerBound 0 = .ok (.aload_n 0, 1) := by decide +kernel
theorem dX3_lowerBound_1 : decode cX3_lowerBound 1 = .ok (.getfield 15, 3) := by decide +kernel
theorem dX3_lowerBound_4 : decode cX3_lowerBound 4 = .ok (.iconst 2, 1) := by decide +kernel
theorem dX3_lowerBound_5 : decode cX3_lowerBound 5 = .ok (.if_icmp .ge 5, 3) := by decide +kernel
theorem dX3_lowerBound_8 : decode cX3_lowerBound 8 = .ok (.iconst 0, 1) := by decide +kernel
theorem dX3_lowerBound_9 : decode cX3_lowerBound 9 = .ok (.ireturn, 1) := by decide +kernel
theorem dX3_lowerBound_10 : decode cX3_lowerBound 10 = .ok (.aload_n 0, 1) := by decide +kernel
theorem dX3_lowerBound_11 : decode cX3_lowerBound 11 = .ok (.aload_n 1, 1) := by decide +kernel
theorem dX3_lowerBound_12 : decode cX3_lowerBound 12 = .ok (.invokevirtual 82, 3) := by decide +kernel
theorem dX3_lowerBound_15 : decode cX3_lowerBound 15 = .ok (.aload_n 0, 1) := by decide +kernel
theorem dX3_lowerBound_16 : decode cX3_lowerBound 16 = .ok (.invokevirtual 88, 3) := by decide +kernel
theorem dX3_lowerBound_19 : decode cX3_lowerBound 19 = .ok (.invokestatic 91, 3) := by decide +kernel
theorem dX3_lowerBound_22 : decode cX3_lowerBound 22 = .ok (.aload_n 0, 1) := by decide +kernel
theorem dX3_lowerBound_23 : decode cX3_lowerBound 23 = .ok (.invokevirtual 94, 3) := by decide +kernel
theorem dX3_lowerBound_26 : decode cX3_lowerBound 26 = .ok (.aload_n 0, 1) := by decide +kernel
theorem dX3_lowerBound_27 : decode cX3_lowerBound 27 = .ok (.invokevirtual 97, 3) := by decide +kernel
theorem dX3_lowerBound_30 : decode cX3_lowerBound 30 = .ok (.invokestatic 91, 3) := by decide +kernel
theorem dX3_lowerBound_33 : decode cX3_lowerBound 33 = .ok (.invokestatic 100, 3) := by decide +kernel
theorem dX3_lowerBound_36 : decode cX3_lowerBound 36 = .ok (.invokestatic 100, 3) := by decide +kernel
theorem dX3_lowerBound_39 : decode cX3_lowerBound 39 = .ok (.ireturn, 1) := by decide +kernel
theorem dX3_halfUp_0 : decode cX3_halfUp 0 = .ok (.iload_n 0, 1) := by decide +kernel
theorem dX3_halfUp_1 : decode cX3_halfUp 1 = .ok (.iconst 1, 1) := by decide +kernel
theorem dX3_halfUp_2 : decode cX3_halfUp 2 = .ok (.iadd, 1) := by decide +kernel
theorem dX3_halfUp_3 : decode cX3_halfUp 3 = .ok (.iconst 2, 1) := by decide +kernel
theorem dX3_halfUp_4 : decode cX3_halfUp 4 = .ok (.idiv, 1) := by decide +kernel
theorem dX3_halfUp_5 : decode cX3_halfUp 5 = .ok (.ireturn, 1) := by decide +kernel
set_option maxRecDepth 20000 in
theorem ggX3_measureTowns_X2_measure : GoodIn wsX3_measureTowns wsX2_measure := goodIn_r _ [8, 9, 10, 11, 12, 7, 13, 14, 15, 16, 17, 18, 19, 20, 28, 29, 30, 31, 32, 33, 34] (by decide +kernel) (by decide +kernel)
set_option maxRecDepth 20000 in
theorem gX3_measureTowns_X2_measure : GoodIn wsX3_measureTowns (wsV RX3 58 RX2 yX2_measure wsX2_measure) := goodIn_app (goodIn_of _ (by decide +kernel)) ggX3_measureTowns_X2_measure
theorem dX3_measureTowns_0 : decode cX3_measureTowns 0 = .ok (.iconst 0, 1) := by decide +kernel
theorem dX3_measureTowns_1 : decode cX3_measureTowns 1 = .ok (.istore_n 2, 1) := by decide +kernel
theorem dX3_measureTowns_2 : decode cX3_measureTowns 2 = .ok (.iload_n 2, 1) := by decide +kernel
theorem dX3_measureTowns_3 : decode cX3_measureTowns 3 = .ok (.aload_n 0, 1) := by decide +kernel
theorem dX3_measureTowns_4 : decode cX3_measureTowns 4 = .ok (.getfield 15, 3) := by decide +kernel
theorem dX3_measureTowns_7 : decode cX3_measureTowns 7 = .ok (.if_icmp .ge 27, 3) := by decide +kernel
theorem dX3_measureTowns_10 : decode cX3_measureTowns 10 = .ok (.aload_n 1, 1) := by decide +kernel
theorem dX3_measureTowns_11 : decode cX3_measureTowns 11 = .ok (.aload_n 0, 1) := by decide +kernel
theorem dX3_measureTowns_12 : decode cX3_measureTowns 12 = .ok (.getfield 26, 3) := by decide +kernel
theorem dX3_measureTowns_15 : decode cX3_measureTowns 15 = .ok (.iload_n 2, 1) := by decide +kernel
theorem dX3_measureTowns_16 : decode cX3_measureTowns 16 = .ok (.bipush 36, 2) := by decide +kernel
theorem dX3_measureTowns_18 : decode cX3_measureTowns 18 = .ok (.imul, 1) := by decide +kernel
theorem dX3_measureTowns_19 : decode cX3_measureTowns 19 = .ok (.aload_n 0, 1) := by decide +kernel
theorem dX3_measureTowns_20 : decode cX3_measureTowns 20 = .ok (.getfield 9, 3) := by decide +kernel
theorem dX3_measureTowns_23 : decode cX3_measureTowns 23 = .ok (.iload_n 2, 1) := by decide +kernel
theorem dX3_measureTowns_24 : decode cX3_measureTowns 24 = .ok (.iaload, 1) := by decide +kernel
theorem dX3_measureTowns_25 : decode cX3_measureTowns 25 = .ok (.invokevirtual 58, 3) := by decide +kernel
theorem dX3_measureTowns_28 : decode cX3_measureTowns 28 = .ok (.iinc 2 1, 3) := by decide +kernel
theorem dX3_measureTowns_31 : decode cX3_measureTowns 31 = .ok (.goto (-29), 3) := by decide +kernel
theorem dX3_measureTowns_34 : decode cX3_measureTowns 34 = .ok (.return_, 1) := by decide +kernel
theorem dX3_between_0 : decode cX3_between 0 = .ok (.aload_n 0, 1) := by decide +kernel
theorem dX3_between_1 : decode cX3_between 1 = .ok (.getfield 26, 3) := by decide +kernel
theorem dX3_between_4 : decode cX3_between 4 = .ok (.iload_n 1, 1) := by decide +kernel
theorem dX3_between_5 : decode cX3_between 5 = .ok (.bipush 36, 2) := by decide +kernel
theorem dX3_between_7 : decode cX3_between 7 = .ok (.imul, 1) := by decide +kernel
theorem dX3_between_8 : decode cX3_between 8 = .ok (.aload_n 0, 1) := by decide +kernel
theorem dX3_between_9 : decode cX3_between 9 = .ok (.getfield 9, 3) := by decide +kernel
theorem dX3_between_12 : decode cX3_between 12 = .ok (.iload_n 2, 1) := by decide +kernel
theorem dX3_between_13 : decode cX3_between 13 = .ok (.iaload, 1) := by decide +kernel
theorem dX3_between_14 : decode cX3_between 14 = .ok (.iadd, 1) := by decide +kernel
theorem dX3_between_15 : decode cX3_between 15 = .ok (.iaload, 1) := by decide +kernel
theorem dX3_between_16 : decode cX3_between 16 = .ok (.ireturn, 1) := by decide +kernel
set_option maxRecDepth 20000 in
theorem ggX3_farthestPair_X3_between : GoodIn wsX3_farthestPair wsX3_between := goodIn_r _ [10, 11, 12, 13, 14, 15, 16, 17, 18, 19] (by decide +kernel) (by decide +kernel)
set_option maxRecDepth 20000 in
theorem gX3_farthestPair_X3_between : GoodIn wsX3_farthestPair (wsV RX3 103 RX3 yX3_between wsX3_between) := goodIn_app (goodIn_of _ (by decide +kernel)) ggX3_farthestPair_X3_between
theorem dX3_farthestPair_0 : decode cX3_farthestPair 0 = .ok (.iconst 0, 1) := by decide +kernel
theorem dX3_farthestPair_1 : decode cX3_farthestPair 1 = .ok (.istore_n 1, 1) := by decide +kernel
theorem dX3_farthestPair_2 : decode cX3_farthestPair 2 = .ok (.iconst 0, 1) := by decide +kernel
theorem dX3_farthestPair_3 : decode cX3_farthestPair 3 = .ok (.istore_n 2, 1) := by decide +kernel
theorem dX3_farthestPair_4 : decode cX3_farthestPair 4 = .ok (.iload_n 2, 1) := by decide +kernel
theorem dX3_farthestPair_5 : decode cX3_farthestPair 5 = .ok (.aload_n 0, 1) := by decide +kernel
theorem dX3_farthestPair_6 : decode cX3_farthestPair 6 = .ok (.getfield 15, 3) := by decide +kernel
theorem dX3_farthestPair_9 : decode cX3_farthestPair 9 = .ok (.if_icmp .ge 38, 3) := by decide +kernel
theorem dX3_farthestPair_12 : decode cX3_farthestPair 12 = .ok (.iload_n 2, 1) := by decide +kernel
theorem dX3_farthestPair_13 : decode cX3_farthestPair 13 = .ok (.iconst 1, 1) := by decide +kernel
theorem dX3_farthestPair_14 : decode cX3_farthestPair 14 = .ok (.iadd, 1) := by decide +kernel
theorem dX3_farthestPair_15 : decode cX3_farthestPair 15 = .ok (.istore_n 3, 1) := by decide +kernel
theorem dX3_farthestPair_16 : decode cX3_farthestPair 16 = .ok (.iload_n 3, 1) := by decide +kernel
theorem dX3_farthestPair_17 : decode cX3_farthestPair 17 = .ok (.aload_n 0, 1) := by decide +kernel
theorem dX3_farthestPair_18 : decode cX3_farthestPair 18 = .ok (.getfield 15, 3) := by decide +kernel
theorem dX3_farthestPair_21 : decode cX3_farthestPair 21 = .ok (.if_icmp .ge 20, 3) := by decide +kernel
theorem dX3_farthestPair_24 : decode cX3_farthestPair 24 = .ok (.iload_n 1, 1) := by decide +kernel
theorem dX3_farthestPair_25 : decode cX3_farthestPair 25 = .ok (.aload_n 0, 1) := by decide +kernel
theorem dX3_farthestPair_26 : decode cX3_farthestPair 26 = .ok (.iload_n 2, 1) := by decide +kernel
theorem dX3_farthestPair_27 : decode cX3_farthestPair 27 = .ok (.iload_n 3, 1) := by decide +kernel
theorem dX3_farthestPair_28 : decode cX3_farthestPair 28 = .ok (.invokevirtual 103, 3) := by decide +kernel
theorem dX3_farthestPair_31 : decode cX3_farthestPair 31 = .ok (.invokestatic 100, 3) := by decide +kernel
theorem dX3_farthestPair_34 : decode cX3_farthestPair 34 = .ok (.istore_n 1, 1) := by decide +kernel
theorem dX3_farthestPair_35 : decode cX3_farthestPair 35 = .ok (.iinc 3 1, 3) := by decide +kernel
theorem dX3_farthestPair_38 : decode cX3_farthestPair 38 = .ok (.goto (-22), 3) := by decide +kernel
theorem dX3_farthestPair_41 : decode cX3_farthestPair 41 = .ok (.iinc 2 1, 3) := by decide +kernel
theorem dX3_farthestPair_44 : decode cX3_farthestPair 44 = .ok (.goto (-40), 3) := by decide +kernel
theorem dX3_farthestPair_47 : decode cX3_farthestPair 47 = .ok (.iload_n 1, 1) := by decide +kernel
theorem dX3_farthestPair_48 : decode cX3_farthestPair 48 = .ok (.ireturn, 1) := by decide +kernel
set_option maxRecDepth 20000 in
theorem ggX3_farthestThree_X3_between : GoodIn wsX3_farthestThree wsX3_between := goodIn_r _ [10, 11, 12, 13, 14, 15, 16, 17, 18, 19] (by decide +kernel) (by decide +kernel)
set_option maxRecDepth 20000 in
theorem gX3_farthestThree_X3_between : GoodIn wsX3_farthestThree (wsV RX3 103 RX3 yX3_between wsX3_between) := goodIn_app (goodIn_of _ (by decide +kernel)) ggX3_farthestThree_X3_between
theorem dX3_farthestThree_0 : decode cX3_farthestThree 0 = .ok (.iconst 0, 1) := by decide +kernel
theorem dX3_farthestThree_1 : decode cX3_farthestThree 1 = .ok (.istore_n 1, 1) := by decide +kernel
theorem dX3_farthestThree_2 : decode cX3_farthestThree 2 = .ok (.iconst 0, 1) := by decide +kernel
theorem dX3_farthestThree_3 : decode cX3_farthestThree 3 = .ok (.istore_n 2, 1) := by decide +kernel
theorem dX3_farthestThree_4 : decode cX3_farthestThree 4 = .ok (.iload_n 2, 1) := by decide +kernel
theorem dX3_farthestThree_5 : decode cX3_farthestThree 5 = .ok (.aload_n 0, 1) := by decide +kernel
theorem dX3_farthestThree_6 : decode cX3_farthestThree 6 = .ok (.getfield 15, 3) := by decide +kernel
theorem dX3_farthestThree_9 : decode cX3_farthestThree 9 = .ok (.if_icmp .ge 74, 3) := by decide +kernel
theorem dX3_farthestThree_12 : decode cX3_farthestThree 12 = .ok (.iload_n 2, 1) := by decide +kernel
theorem dX3_farthestThree_13 : decode cX3_farthestThree 13 = .ok (.iconst 1, 1) := by decide +kernel
theorem dX3_farthestThree_14 : decode cX3_farthestThree 14 = .ok (.iadd, 1) := by decide +kernel
theorem dX3_farthestThree_15 : decode cX3_farthestThree 15 = .ok (.istore_n 3, 1) := by decide +kernel
theorem dX3_farthestThree_16 : decode cX3_farthestThree 16 = .ok (.iload_n 3, 1) := by decide +kernel
theorem dX3_farthestThree_17 : decode cX3_farthestThree 17 = .ok (.aload_n 0, 1) := by decide +kernel
theorem dX3_farthestThree_18 : decode cX3_farthestThree 18 = .ok (.getfield 15, 3) := by decide +kernel
theorem dX3_farthestThree_21 : decode cX3_farthestThree 21 = .ok (.if_icmp .ge 56, 3) := by decide +kernel
theorem dX3_farthestThree_24 : decode cX3_farthestThree 24 = .ok (.iload_n 3, 1) := by decide +kernel
theorem dX3_farthestThree_25 : decode cX3_farthestThree 25 = .ok (.iconst 1, 1) := by decide +kernel
theorem dX3_farthestThree_26 : decode cX3_farthestThree 26 = .ok (.iadd, 1) := by decide +kernel
theorem dX3_farthestThree_27 : decode cX3_farthestThree 27 = .ok (.istore 4, 2) := by decide +kernel
theorem dX3_farthestThree_29 : decode cX3_farthestThree 29 = .ok (.iload 4, 2) := by decide +kernel
theorem dX3_farthestThree_31 : decode cX3_farthestThree 31 = .ok (.aload_n 0, 1) := by decide +kernel
theorem dX3_farthestThree_32 : decode cX3_farthestThree 32 = .ok (.getfield 15, 3) := by decide +kernel
theorem dX3_farthestThree_35 : decode cX3_farthestThree 35 = .ok (.if_icmp .ge 36, 3) := by decide +kernel
theorem dX3_farthestThree_38 : decode cX3_farthestThree 38 = .ok (.iload_n 1, 1) := by decide +kernel
theorem dX3_farthestThree_39 : decode cX3_farthestThree 39 = .ok (.aload_n 0, 1) := by decide +kernel
theorem dX3_farthestThree_40 : decode cX3_farthestThree 40 = .ok (.iload_n 2, 1) := by decide +kernel
theorem dX3_farthestThree_41 : decode cX3_farthestThree 41 = .ok (.iload_n 3, 1) := by decide +kernel
theorem dX3_farthestThree_42 : decode cX3_farthestThree 42 = .ok (.invokevirtual 103, 3) := by decide +kernel
theorem dX3_farthestThree_45 : decode cX3_farthestThree 45 = .ok (.aload_n 0, 1) := by decide +kernel
theorem dX3_farthestThree_46 : decode cX3_farthestThree 46 = .ok (.iload_n 2, 1) := by decide +kernel
theorem dX3_farthestThree_47 : decode cX3_farthestThree 47 = .ok (.iload 4, 2) := by decide +kernel
theorem dX3_farthestThree_49 : decode cX3_farthestThree 49 = .ok (.invokevirtual 103, 3) := by decide +kernel
theorem dX3_farthestThree_52 : decode cX3_farthestThree 52 = .ok (.iadd, 1) := by decide +kernel
theorem dX3_farthestThree_53 : decode cX3_farthestThree 53 = .ok (.aload_n 0, 1) := by decide +kernel
theorem dX3_farthestThree_54 : decode cX3_farthestThree 54 = .ok (.iload_n 3, 1) := by decide +kernel
theorem dX3_farthestThree_55 : decode cX3_farthestThree 55 = .ok (.iload 4, 2) := by decide +kernel
theorem dX3_farthestThree_57 : decode cX3_farthestThree 57 = .ok (.invokevirtual 103, 3) := by decide +kernel
theorem dX3_farthestThree_60 : decode cX3_farthestThree 60 = .ok (.iadd, 1) := by decide +kernel
theorem dX3_farthestThree_61 : decode cX3_farthestThree 61 = .ok (.invokestatic 100, 3) := by decide +kernel
theorem dX3_farthestThree_64 : decode cX3_farthestThree 64 = .ok (.istore_n 1, 1) := by decide +kernel
theorem dX3_farthestThree_65 : decode cX3_farthestThree 65 = .ok (.iinc 4 1, 3) := by decide +kernel
theorem dX3_farthestThree_68 : decode cX3_farthestThree 68 = .ok (.goto (-39), 3) := by decide +kernel
theorem dX3_farthestThree_71 : decode cX3_farthestThree 71 = .ok (.iinc 3 1, 3) := by decide +kernel
theorem dX3_farthestThree_74 : decode cX3_farthestThree 74 = .ok (.goto (-58), 3) := by decide +kernel
theorem dX3_farthestThree_77 : decode cX3_farthestThree 77 = .ok (.iinc 2 1, 3) := by decide +kernel
theorem dX3_farthestThree_80 : decode cX3_farthestThree 80 = .ok (.goto (-76), 3) := by decide +kernel
theorem dX3_farthestThree_83 : decode cX3_farthestThree 83 = .ok (.iload_n 1, 1) := by decide +kernel
theorem dX3_farthestThree_84 : decode cX3_farthestThree 84 = .ok (.ireturn, 1) := by decide +kernel
set_option maxRecDepth 20000 in
theorem ggX3_cheapestPairs_X3_between : GoodIn wsX3_cheapestPairs wsX3_between := goodIn_r _ [11, 12, 13, 18, 19, 20, 21, 22, 23, 24] (by decide +kernel) (by decide +kernel)
set_option maxRecDepth 20000 in
theorem gX3_cheapestPairs_X3_between : GoodIn wsX3_cheapestPairs (wsV RX3 103 RX3 yX3_between wsX3_between) := goodIn_app (goodIn_of _ (by decide +kernel)) ggX3_cheapestPairs_X3_between
set_option maxRecDepth 20000 in
theorem ggX3_cheapestPairs_X3_nearestOutside : GoodIn wsX3_cheapestPairs wsX3_nearestOutside := goodIn_r _ [17, 1, 2, 18, 19, 20, 21, 22, 23, 24] (by decide +kernel) (by decide +kernel)
set_option maxRecDepth 20000 in
theorem gX3_cheapestPairs_X3_nearestOutside : GoodIn wsX3_cheapestPairs (wsV RX3 106 RX3 yX3_nearestOutside wsX3_nearestOutside) := goodIn_app (goodIn_of _ (by decide +kernel)) ggX3_cheapestPairs_X3_nearestOutside
theorem dX3_cheapestPairs_0 : decode cX3_cheapestPairs 0 = .ok (.iconst 0, 1) := by decide +kernel
theorem dX3_cheapestPairs_1 : decode cX3_cheapestPairs 1 = .ok (.istore_n 1, 1) := by decide +kernel
theorem dX3_cheapestPairs_2 : decode cX3_cheapestPairs 2 = .ok (.iload_n 1, 1) := by decide +kernel
theorem dX3_cheapestPairs_3 : decode cX3_cheapestPairs 3 = .ok (.aload_n 0, 1) := by decide +kernel
theorem dX3_cheapestPairs_4 : decode cX3_cheapestPairs 4 = .ok (.getfield 15, 3) := by decide +kernel
theorem dX3_cheapestPairs_7 : decode cX3_cheapestPairs 7 = .ok (.if_icmp .ge 21, 3) := by decide +kernel
theorem dX3_cheapestPairs_10 : decode cX3_cheapestPairs 10 = .ok (.aload_n 0, 1) := by decide +kernel
theorem dX3_cheapestPairs_11 : decode cX3_cheapestPairs 11 = .ok (.getfield 32, 3) := by decide +kernel
theorem dX3_cheapestPairs_14 : decode cX3_cheapestPairs 14 = .ok (.iload_n 1, 1) := by decide +kernel
theorem dX3_cheapestPairs_15 : decode cX3_cheapestPairs 15 = .ok (.aload_n 0, 1) := by decide +kernel
theorem dX3_cheapestPairs_16 : decode cX3_cheapestPairs 16 = .ok (.iconst 0, 1) := by decide +kernel
theorem dX3_cheapestPairs_17 : decode cX3_cheapestPairs 17 = .ok (.iload_n 1, 1) := by decide +kernel
theorem dX3_cheapestPairs_18 : decode cX3_cheapestPairs 18 = .ok (.invokevirtual 103, 3) := by decide +kernel
theorem dX3_cheapestPairs_21 : decode cX3_cheapestPairs 21 = .ok (.iastore, 1) := by decide +kernel
theorem dX3_cheapestPairs_22 : decode cX3_cheapestPairs 22 = .ok (.iinc 1 1, 3) := by decide +kernel
theorem dX3_cheapestPairs_25 : decode cX3_cheapestPairs 25 = .ok (.goto (-23), 3) := by decide +kernel
theorem dX3_cheapestPairs_28 : decode cX3_cheapestPairs 28 = .ok (.iconst 0, 1) := by decide +kernel
theorem dX3_cheapestPairs_29 : decode cX3_cheapestPairs 29 = .ok (.istore_n 1, 1) := by decide +kernel
theorem dX3_cheapestPairs_30 : decode cX3_cheapestPairs 30 = .ok (.iconst 1, 1) := by decide +kernel
theorem dX3_cheapestPairs_31 : decode cX3_cheapestPairs 31 = .ok (.istore_n 2, 1) := by decide +kernel
theorem dX3_cheapestPairs_32 : decode cX3_cheapestPairs 32 = .ok (.iload_n 2, 1) := by decide +kernel
theorem dX3_cheapestPairs_33 : decode cX3_cheapestPairs 33 = .ok (.aload_n 0, 1) := by decide +kernel
theorem dX3_cheapestPairs_34 : decode cX3_cheapestPairs 34 = .ok (.getfield 15, 3) := by decide +kernel
theorem dX3_cheapestPairs_37 : decode cX3_cheapestPairs 37 = .ok (.if_icmp .ge 65, 3) := by decide +kernel
theorem dX3_cheapestPairs_40 : decode cX3_cheapestPairs 40 = .ok (.aload_n 0, 1) := by decide +kernel
theorem dX3_cheapestPairs_41 : decode cX3_cheapestPairs 41 = .ok (.invokevirtual 106, 3) := by decide +kernel
theorem dX3_cheapestPairs_44 : decode cX3_cheapestPairs 44 = .ok (.istore_n 3, 1) := by decide +kernel
theorem dX3_cheapestPairs_45 : decode cX3_cheapestPairs 45 = .ok (.iload_n 1, 1) := by decide +kernel
theorem dX3_cheapestPairs_46 : decode cX3_cheapestPairs 46 = .ok (.aload_n 0, 1) := by decide +kernel
theorem dX3_cheapestPairs_47 : decode cX3_cheapestPairs 47 = .ok (.getfield 32, 3) := by decide +kernel
theorem dX3_cheapestPairs_50 : decode cX3_cheapestPairs 50 = .ok (.iload_n 3, 1) := by decide +kernel
theorem dX3_cheapestPairs_51 : decode cX3_cheapestPairs 51 = .ok (.iaload, 1) := by decide +kernel
theorem dX3_cheapestPairs_52 : decode cX3_cheapestPairs 52 = .ok (.iadd, 1) := by decide +kernel
theorem dX3_cheapestPairs_53 : decode cX3_cheapestPairs 53 = .ok (.istore_n 1, 1) := by decide +kernel
theorem dX3_cheapestPairs_54 : decode cX3_cheapestPairs 54 = .ok (.iconst 0, 1) := by decide +kernel
theorem dX3_cheapestPairs_55 : decode cX3_cheapestPairs 55 = .ok (.istore 4, 2) := by decide +kernel
theorem dX3_cheapestPairs_57 : decode cX3_cheapestPairs 57 = .ok (.iload 4, 2) := by decide +kernel
theorem dX3_cheapestPairs_59 : decode cX3_cheapestPairs 59 = .ok (.aload_n 0, 1) := by decide +kernel
theorem dX3_cheapestPairs_60 : decode cX3_cheapestPairs 60 = .ok (.getfield 15, 3) := by decide +kernel
theorem dX3_cheapestPairs_63 : decode cX3_cheapestPairs 63 = .ok (.if_icmp .ge 33, 3) := by decide +kernel
theorem dX3_cheapestPairs_66 : decode cX3_cheapestPairs 66 = .ok (.aload_n 0, 1) := by decide +kernel
theorem dX3_cheapestPairs_67 : decode cX3_cheapestPairs 67 = .ok (.getfield 32, 3) := by decide +kernel
theorem dX3_cheapestPairs_70 : decode cX3_cheapestPairs 70 = .ok (.iload 4, 2) := by decide +kernel
theorem dX3_cheapestPairs_72 : decode cX3_cheapestPairs 72 = .ok (.aload_n 0, 1) := by decide +kernel
theorem dX3_cheapestPairs_73 : decode cX3_cheapestPairs 73 = .ok (.getfield 32, 3) := by decide +kernel
theorem dX3_cheapestPairs_76 : decode cX3_cheapestPairs 76 = .ok (.iload 4, 2) := by decide +kernel
theorem dX3_cheapestPairs_78 : decode cX3_cheapestPairs 78 = .ok (.iaload, 1) := by decide +kernel
theorem dX3_cheapestPairs_79 : decode cX3_cheapestPairs 79 = .ok (.aload_n 0, 1) := by decide +kernel
theorem dX3_cheapestPairs_80 : decode cX3_cheapestPairs 80 = .ok (.iload_n 3, 1) := by decide +kernel
theorem dX3_cheapestPairs_81 : decode cX3_cheapestPairs 81 = .ok (.iload 4, 2) := by decide +kernel
theorem dX3_cheapestPairs_83 : decode cX3_cheapestPairs 83 = .ok (.invokevirtual 103, 3) := by decide +kernel
theorem dX3_cheapestPairs_86 : decode cX3_cheapestPairs 86 = .ok (.invokestatic 76, 3) := by decide +kernel
theorem dX3_cheapestPairs_89 : decode cX3_cheapestPairs 89 = .ok (.iastore, 1) := by decide +kernel
theorem dX3_cheapestPairs_90 : decode cX3_cheapestPairs 90 = .ok (.iinc 4 1, 3) := by decide +kernel
theorem dX3_cheapestPairs_93 : decode cX3_cheapestPairs 93 = .ok (.goto (-36), 3) := by decide +kernel
theorem dX3_cheapestPairs_96 : decode cX3_cheapestPairs 96 = .ok (.iinc 2 1, 3) := by decide +kernel
theorem dX3_cheapestPairs_99 : decode cX3_cheapestPairs 99 = .ok (.goto (-67), 3) := by decide +kernel
theorem dX3_cheapestPairs_102 : decode cX3_cheapestPairs 102 = .ok (.iload_n 1, 1) := by decide +kernel
theorem dX3_cheapestPairs_103 : decode cX3_cheapestPairs 103 = .ok (.ireturn, 1) := by decide +kernel
theorem dX3_nearestOutside_0 : decode cX3_nearestOutside 0 = .ok (.iconst 0, 1) := by decide +kernel
theorem dX3_nearestOutside_1 : decode cX3_nearestOutside 1 = .ok (.istore_n 1, 1) := by decide +kernel
theorem dX3_nearestOutside_2 : decode cX3_nearestOutside 2 = .ok (.iconst 0, 1) := by decide +kernel
theorem dX3_nearestOutside_3 : decode cX3_nearestOutside 3 = .ok (.istore_n 2, 1) := by decide +kernel
theorem dX3_nearestOutside_4 : decode cX3_nearestOutside 4 = .ok (.iload_n 2, 1) := by decide +kernel
theorem dX3_nearestOutside_5 : decode cX3_nearestOutside 5 = .ok (.aload_n 0, 1) := by decide +kernel
theorem dX3_nearestOutside_6 : decode cX3_nearestOutside 6 = .ok (.getfield 15, 3) := by decide +kernel
theorem dX3_nearestOutside_9 : decode cX3_nearestOutside 9 = .ok (.if_icmp .ge 44, 3) := by decide +kernel
theorem dX3_nearestOutside_12 : decode cX3_nearestOutside 12 = .ok (.aload_n 0, 1) := by decide +kernel
theorem dX3_nearestOutside_13 : decode cX3_nearestOutside 13 = .ok (.getfield 32, 3) := by decide +kernel
theorem dX3_nearestOutside_16 : decode cX3_nearestOutside 16 = .ok (.iload_n 2, 1) := by decide +kernel
theorem dX3_nearestOutside_17 : decode cX3_nearestOutside 17 = .ok (.iaload, 1) := by decide +kernel
theorem dX3_nearestOutside_18 : decode cX3_nearestOutside 18 = .ok (.ifCond .le 29, 3) := by decide +kernel
theorem dX3_nearestOutside_21 : decode cX3_nearestOutside 21 = .ok (.aload_n 0, 1) := by decide +kernel
theorem dX3_nearestOutside_22 : decode cX3_nearestOutside 22 = .ok (.getfield 32, 3) := by decide +kernel
theorem dX3_nearestOutside_25 : decode cX3_nearestOutside 25 = .ok (.iload_n 1, 1) := by decide +kernel
theorem dX3_nearestOutside_26 : decode cX3_nearestOutside 26 = .ok (.iaload, 1) := by decide +kernel
theorem dX3_nearestOutside_27 : decode cX3_nearestOutside 27 = .ok (.ifCond .eq 18, 3) := by decide +kernel
theorem dX3_nearestOutside_30 : decode cX3_nearestOutside 30 = .ok (.aload_n 0, 1) := by decide +kernel
theorem dX3_nearestOutside_31 : decode cX3_nearestOutside 31 = .ok (.getfield 32, 3) := by decide +kernel
theorem dX3_nearestOutside_34 : decode cX3_nearestOutside 34 = .ok (.iload_n 2, 1) := by decide +kernel
theorem dX3_nearestOutside_35 : decode cX3_nearestOutside 35 = .ok (.iaload, 1) := by decide +kernel
theorem dX3_nearestOutside_36 : decode cX3_nearestOutside 36 = .ok (.aload_n 0, 1) := by decide +kernel
theorem dX3_nearestOutside_37 : decode cX3_nearestOutside 37 = .ok (.getfield 32, 3) := by decide +kernel
theorem dX3_nearestOutside_40 : decode cX3_nearestOutside 40 = .ok (.iload_n 1, 1) := by decide +kernel
theorem dX3_nearestOutside_41 : decode cX3_nearestOutside 41 = .ok (.iaload, 1) := by decide +kernel
theorem dX3_nearestOutside_42 : decode cX3_nearestOutside 42 = .ok (.if_icmp .ge 5, 3) := by decide +kernel
theorem dX3_nearestOutside_45 : decode cX3_nearestOutside 45 = .ok (.iload_n 2, 1) := by decide +kernel
theorem dX3_nearestOutside_46 : decode cX3_nearestOutside 46 = .ok (.istore_n 1, 1) := by decide +kernel
theorem dX3_nearestOutside_47 : decode cX3_nearestOutside 47 = .ok (.iinc 2 1, 3) := by decide +kernel
theorem dX3_nearestOutside_50 : decode cX3_nearestOutside 50 = .ok (.goto (-46), 3) := by decide +kernel
theorem dX3_nearestOutside_53 : decode cX3_nearestOutside 53 = .ok (.iload_n 1, 1) := by decide +kernel
theorem dX3_nearestOutside_54 : decode cX3_nearestOutside 54 = .ok (.ireturn, 1) := by decide +kernel
theorem dX4_init_0 : decode cX4_init 0 = .ok (.aload_n 0, 1) := by decide +kernel
theorem dX4_init_1 : decode cX4_init 1 = .ok (.invokespecial 3, 3) := by decide +kernel
theorem dX4_init_4 : decode cX4_init 4 = .ok (.aload_n 0, 1) := by decide +kernel
theorem dX4_init_5 : decode cX4_init 5 = .ok (.bipush 36, 2) := by decide +kernel
theorem dX4_init_7 : decode cX4_init 7 = .ok (.newarray .int, 2) := by decide +kernel
theorem dX4_init_9 : decode cX4_init 9 = .ok (.putfield 9, 3) := by decide +kernel
theorem dX4_init_12 : decode cX4_init 12 = .ok (.aload_n 0, 1) := by decide +kernel
theorem dX4_init_13 : decode cX4_init 13 = .ok (.bipush 60, 2) := by decide +kernel
theorem dX4_init_15 : decode cX4_init 15 = .ok (.newarray .int, 2) := by decide +kernel
theorem dX4_init_17 : decode cX4_init 17 = .ok (.putfield 15, 3) := by decide +kernel
theorem dX4_init_20 : decode cX4_init 20 = .ok (.return_, 1) := by decide +kernel
set_option maxRecDepth 20000 in
theorem ggX4_cheapest_X2_measure : GoodIn wsX4_cheapest wsX2_measure := goodIn_r _ [6, 7, 8, 9, 10, 5, 11, 12, 13, 14, 15, 16, 17, 18, 21, 22, 23, 24, 25, 26, 27] (by decide +kernel) (by decide +kernel)
set_option maxRecDepth 20000 in
theorem gX4_cheapest_X2_measure : GoodIn wsX4_cheapest (wsV RX4 18 RX2 yX2_measure wsX2_measure) := goodIn_app (goodIn_of _ (by decide +kernel)) ggX4_cheapest_X2_measure
theorem dX4_cheapest_0 : decode cX4_cheapest 0 = .ok (.aload_n 1, 1) := by decide +kernel
theorem dX4_cheapest_1 : decode cX4_cheapest 1 = .ok (.aload_n 0, 1) := by decide +kernel
theorem dX4_cheapest_2 : decode cX4_cheapest 2 = .ok (.getfield 9, 3) := by decide +kernel
theorem dX4_cheapest_5 : decode cX4_cheapest 5 = .ok (.iconst 0, 1) := by decide +kernel
theorem dX4_cheapest_6 : decode cX4_cheapest 6 = .ok (.iload_n 2, 1) := by decide +kernel
theorem dX4_cheapest_7 : decode cX4_cheapest 7 = .ok (.invokevirtual 18, 3) := by decide +kernel
theorem dX4_cheapest_10 : decode cX4_cheapest 10 = .ok (.aload_n 0, 1) := by decide +kernel
theorem dX4_cheapest_11 : decode cX4_cheapest 11 = .ok (.getfield 9, 3) := by decide +kernel
theorem dX4_cheapest_14 : decode cX4_cheapest 14 = .ok (.iload_n 3, 1) := by decide +kernel
theorem dX4_cheapest_15 : decode cX4_cheapest 15 = .ok (.iaload, 1) := by decide +kernel
theorem dX4_cheapest_16 : decode cX4_cheapest 16 = .ok (.ireturn, 1) := by decide +kernel
set_option maxRecDepth 20000 in
theorem ggX4_cheapestPair_X4_cheapest : GoodIn wsX4_cheapestPair wsX4_cheapest := goodIn_r _ [6, 1, 7, 8, 9, 10, 11, 12, 13, 14, 15, 16, 17, 18, 19, 20, 21, 22, 23, 63, 64, 65, 66, 67, 68, 69, 70, 71] (by decide +kernel) (by decide +kernel)
set_option maxRecDepth 20000 in
theorem gX4_cheapestPair_X4_cheapest : GoodIn wsX4_cheapestPair (wsV RX4 24 RX4 yX4_cheapest wsX4_cheapest) := goodIn_app (goodIn_of _ (by decide +kernel)) ggX4_cheapestPair_X4_cheapest
set_option maxRecDepth 20000 in
theorem ggX4_cheapestPair_X4_takeWayBack : GoodIn wsX4_cheapestPair wsX4_takeWayBack := goodIn_r _ [27, 28, 1, 29, 30, 31, 5, 32, 33, 34, 35, 10, 36, 37, 38, 39, 40, 41, 21, 22, 42, 43, 44, 45, 23, 63, 64, 65, 66, 67, 68, 69, 70, 71] (by decide +kernel) (by decide +kernel)
set_option maxRecDepth 20000 in
theorem gX4_cheapestPair_X4_takeWayBack : GoodIn wsX4_cheapestPair (wsV RX4 28 RX4 yX4_takeWayBack wsX4_takeWayBack) := goodIn_app (goodIn_of _ (by decide +kernel)) ggX4_cheapestPair_X4_takeWayBack
set_option maxRecDepth 20000 in
theorem ggX4_cheapestPair_X4_measureBesideTaken : GoodIn wsX4_cheapestPair wsX4_measureBesideTaken := goodIn_r _ [49, 1, 50, 51, 52, 53, 10, 54, 21, 55, 56, 57, 58, 22, 59, 60, 61, 5, 62, 28, 42, 43, 44, 45, 23, 63, 64, 65, 66, 67, 68, 69, 70, 71] (by decide +kernel) (by decide +kernel)
set_option maxRecDepth 20000 in
theorem gX4_cheapestPair_X4_measureBesideTaken : GoodIn wsX4_cheapestPair (wsV RX4 32 RX4 yX4_measureBesideTaken wsX4_measureBesideTaken) := goodIn_app (goodIn_of _ (by decide +kernel)) ggX4_cheapestPair_X4_measureBesideTaken
theorem dX4_cheapestPair_0 : decode cX4_cheapestPair 0 = .ok (.aload_n 0, 1) := by decide +kernel
theorem dX4_cheapestPair_1 : decode cX4_cheapestPair 1 = .ok (.aload_n 1, 1) := by decide +kernel
theorem dX4_cheapestPair_2 : decode cX4_cheapestPair 2 = .ok (.iload_n 2, 1) := by decide +kernel
theorem dX4_cheapestPair_3 : decode cX4_cheapestPair 3 = .ok (.iload_n 3, 1) := by decide +kernel
theorem dX4_cheapestPair_4 : decode cX4_cheapestPair 4 = .ok (.invokevirtual 24, 3) := by decide +kernel
theorem dX4_cheapestPair_7 : decode cX4_cheapestPair 7 = .ok (.istore 4, 2) := by decide +kernel
theorem dX4_cheapestPair_9 : decode cX4_cheapestPair 9 = .ok (.aload_n 0, 1) := by decide +kernel
theorem dX4_cheapestPair_10 : decode cX4_cheapestPair 10 = .ok (.aload_n 1, 1) := by decide +kernel
theorem dX4_cheapestPair_11 : decode cX4_cheapestPair 11 = .ok (.iload_n 3, 1) := by decide +kernel
theorem dX4_cheapestPair_12 : decode cX4_cheapestPair 12 = .ok (.invokevirtual 28, 3) := by decide +kernel
theorem dX4_cheapestPair_15 : decode cX4_cheapestPair 15 = .ok (.aload_n 0, 1) := by decide +kernel
theorem dX4_cheapestPair_16 : decode cX4_cheapestPair 16 = .ok (.aload_n 1, 1) := by decide +kernel
theorem dX4_cheapestPair_17 : decode cX4_cheapestPair 17 = .ok (.iload_n 2, 1) := by decide +kernel
theorem dX4_cheapestPair_18 : decode cX4_cheapestPair 18 = .ok (.invokevirtual 32, 3) := by decide +kernel
theorem dX4_cheapestPair_21 : decode cX4_cheapestPair 21 = .ok (.iload 4, 2) := by decide +kernel
theorem dX4_cheapestPair_23 : decode cX4_cheapestPair 23 = .ok (.aload_n 0, 1) := by decide +kernel
theorem dX4_cheapestPair_24 : decode cX4_cheapestPair 24 = .ok (.getfield 9, 3) := by decide +kernel
theorem dX4_cheapestPair_27 : decode cX4_cheapestPair 27 = .ok (.iload_n 3, 1) := by decide +kernel
theorem dX4_cheapestPair_28 : decode cX4_cheapestPair 28 = .ok (.iaload, 1) := by decide +kernel
theorem dX4_cheapestPair_29 : decode cX4_cheapestPair 29 = .ok (.iadd, 1) := by decide +kernel
theorem dX4_cheapestPair_30 : decode cX4_cheapestPair 30 = .ok (.ireturn, 1) := by decide +kernel
set_option maxRecDepth 20000 in
theorem ggX4_takeWayBack_X4_stepBack : GoodIn wsX4_takeWayBack wsX4_stepBack := goodIn_r _ [7, 2, 1, 8, 9, 10, 11, 12, 13, 14, 15, 16, 17, 18, 19, 20, 21, 22, 23, 24, 25, 26, 27, 28, 29, 30, 31, 32, 33] (by decide +kernel) (by decide +kernel)
set_option maxRecDepth 20000 in
theorem gX4_takeWayBack_X4_stepBack : GoodIn wsX4_takeWayBack (wsV RX4 35 RX4 yX4_stepBack wsX4_stepBack) := goodIn_app (goodIn_of _ (by decide +kernel)) ggX4_takeWayBack_X4_stepBack
theorem dX4_takeWayBack_0 : decode cX4_takeWayBack 0 = .ok (.iconst 0, 1) := by decide +kernel
theorem dX4_takeWayBack_1 : decode cX4_takeWayBack 1 = .ok (.istore_n 3, 1) := by decide +kernel
theorem dX4_takeWayBack_2 : decode cX4_takeWayBack 2 = .ok (.iload_n 3, 1) := by decide +kernel
theorem dX4_takeWayBack_3 : decode cX4_takeWayBack 3 = .ok (.bipush 60, 2) := by decide +kernel
theorem dX4_takeWayBack_5 : decode cX4_takeWayBack 5 = .ok (.if_icmp .ge 16, 3) := by decide +kernel
theorem dX4_takeWayBack_8 : decode cX4_takeWayBack 8 = .ok (.aload_n 0, 1) := by decide +kernel
theorem dX4_takeWayBack_9 : decode cX4_takeWayBack 9 = .ok (.getfield 15, 3) := by decide +kernel
theorem dX4_takeWayBack_12 : decode cX4_takeWayBack 12 = .ok (.iload_n 3, 1) := by decide +kernel
theorem dX4_takeWayBack_13 : decode cX4_takeWayBack 13 = .ok (.iconst 0, 1) := by decide +kernel
theorem dX4_takeWayBack_14 : decode cX4_takeWayBack 14 = .ok (.iastore, 1) := by decide +kernel
theorem dX4_takeWayBack_15 : decode cX4_takeWayBack 15 = .ok (.iinc 3 1, 3) := by decide +kernel
theorem dX4_takeWayBack_18 : decode cX4_takeWayBack 18 = .ok (.goto (-16), 3) := by decide +kernel
theorem dX4_takeWayBack_21 : decode cX4_takeWayBack 21 = .ok (.iload_n 2, 1) := by decide +kernel
theorem dX4_takeWayBack_22 : decode cX4_takeWayBack 22 = .ok (.istore_n 3, 1) := by decide +kernel
theorem dX4_takeWayBack_23 : decode cX4_takeWayBack 23 = .ok (.iconst 0, 1) := by decide +kernel
theorem dX4_takeWayBack_24 : decode cX4_takeWayBack 24 = .ok (.istore 4, 2) := by decide +kernel
theorem dX4_takeWayBack_26 : decode cX4_takeWayBack 26 = .ok (.iload 4, 2) := by decide +kernel
theorem dX4_takeWayBack_28 : decode cX4_takeWayBack 28 = .ok (.bipush 36, 2) := by decide +kernel
theorem dX4_takeWayBack_30 : decode cX4_takeWayBack 30 = .ok (.if_icmp .ge 25, 3) := by decide +kernel
theorem dX4_takeWayBack_33 : decode cX4_takeWayBack 33 = .ok (.aload_n 0, 1) := by decide +kernel
theorem dX4_takeWayBack_34 : decode cX4_takeWayBack 34 = .ok (.getfield 9, 3) := by decide +kernel
theorem dX4_takeWayBack_37 : decode cX4_takeWayBack 37 = .ok (.iload_n 3, 1) := by decide +kernel
theorem dX4_takeWayBack_38 : decode cX4_takeWayBack 38 = .ok (.iaload, 1) := by decide +kernel
theorem dX4_takeWayBack_39 : decode cX4_takeWayBack 39 = .ok (.ifCond .le 16, 3) := by decide +kernel
theorem dX4_takeWayBack_42 : decode cX4_takeWayBack 42 = .ok (.aload_n 0, 1) := by decide +kernel
theorem dX4_takeWayBack_43 : decode cX4_takeWayBack 43 = .ok (.aload_n 1, 1) := by decide +kernel
theorem dX4_takeWayBack_44 : decode cX4_takeWayBack 44 = .ok (.iload_n 3, 1) := by decide +kernel
theorem dX4_takeWayBack_45 : decode cX4_takeWayBack 45 = .ok (.invokevirtual 35, 3) := by decide +kernel
theorem dX4_takeWayBack_48 : decode cX4_takeWayBack 48 = .ok (.istore_n 3, 1) := by decide +kernel
theorem dX4_takeWayBack_49 : decode cX4_takeWayBack 49 = .ok (.iinc 4 1, 3) := by decide +kernel
theorem dX4_takeWayBack_52 : decode cX4_takeWayBack 52 = .ok (.goto (-26), 3) := by decide +kernel
theorem dX4_takeWayBack_55 : decode cX4_takeWayBack 55 = .ok (.return_, 1) := by decide +kernel
set_option maxRecDepth 20000 in
theorem ggX4_stepBack_X2_beside : GoodIn wsX4_stepBack wsX2_beside := goodIn_r _ [7, 8, 22, 23, 24, 25, 26, 27, 28] (by decide +kernel) (by decide +kernel)
set_option maxRecDepth 20000 in
theorem gX4_stepBack_X2_beside : GoodIn wsX4_stepBack (wsV RX4 39 RX2 yX2_beside wsX2_beside) := goodIn_app (goodIn_of _ (by decide +kernel)) ggX4_stepBack_X2_beside
set_option maxRecDepth 20000 in
theorem ggX4_stepBack_X2_otherEnd : GoodIn wsX4_stepBack wsX2_otherEnd := goodIn_r _ [12, 13, 14, 22, 23, 24, 25, 26, 27, 28] (by decide +kernel) (by decide +kernel)
set_option maxRecDepth 20000 in
theorem gX4_stepBack_X2_otherEnd : GoodIn wsX4_stepBack (wsV RX4 43 RX2 yX2_otherEnd wsX2_otherEnd) := goodIn_app (goodIn_of _ (by decide +kernel)) ggX4_stepBack_X2_otherEnd
set_option maxRecDepth 20000 in
theorem ggX4_stepBack_X2_price : GoodIn wsX4_stepBack wsX2_price := goodIn_r _ [18, 19, 22, 23, 24, 25, 26, 27, 28] (by decide +kernel) (by decide +kernel)
set_option maxRecDepth 20000 in
theorem gX4_stepBack_X2_price : GoodIn wsX4_stepBack (wsV RX4 46 RX2 yX2_price wsX2_price) := goodIn_app (goodIn_of _ (by decide +kernel)) ggX4_stepBack_X2_price
theorem dX4_stepBack_0 : decode cX4_stepBack 0 = .ok (.iconst 0, 1) := by decide +kernel
theorem dX4_stepBack_1 : decode cX4_stepBack 1 = .ok (.istore_n 3, 1) := by decide +kernel
theorem dX4_stepBack_2 : decode cX4_stepBack 2 = .ok (.iload_n 3, 1) := by decide +kernel
theorem dX4_stepBack_3 : decode cX4_stepBack 3 = .ok (.iconst 4, 1) := by decide +kernel
theorem dX4_stepBack_4 : decode cX4_stepBack 4 = .ok (.if_icmp .ge 76, 3) := by decide +kernel
theorem dX4_stepBack_7 : decode cX4_stepBack 7 = .ok (.aload_n 1, 1) := by decide +kernel
theorem dX4_stepBack_8 : decode cX4_stepBack 8 = .ok (.iload_n 2, 1) := by decide +kernel
theorem dX4_stepBack_9 : decode cX4_stepBack 9 = .ok (.iload_n 3, 1) := by decide +kernel
theorem dX4_stepBack_10 : decode cX4_stepBack 10 = .ok (.invokevirtual 39, 3) := by decide +kernel
theorem dX4_stepBack_13 : decode cX4_stepBack 13 = .ok (.istore 4, 2) := by decide +kernel
theorem dX4_stepBack_15 : decode cX4_stepBack 15 = .ok (.iload 4, 2) := by decide +kernel
theorem dX4_stepBack_17 : decode cX4_stepBack 17 = .ok (.iconst (-1), 1) := by decide +kernel
theorem dX4_stepBack_18 : decode cX4_stepBack 18 = .ok (.if_icmp .eq 56, 3) := by decide +kernel
theorem dX4_stepBack_21 : decode cX4_stepBack 21 = .ok (.aload_n 1, 1) := by decide +kernel
theorem dX4_stepBack_22 : decode cX4_stepBack 22 = .ok (.iload 4, 2) := by decide +kernel
theorem dX4_stepBack_24 : decode cX4_stepBack 24 = .ok (.iload_n 2, 1) := by decide +kernel
theorem dX4_stepBack_25 : decode cX4_stepBack 25 = .ok (.invokevirtual 43, 3) := by decide +kernel
theorem dX4_stepBack_28 : decode cX4_stepBack 28 = .ok (.istore 5, 2) := by decide +kernel
theorem dX4_stepBack_30 : decode cX4_stepBack 30 = .ok (.aload_n 0, 1) := by decide +kernel
theorem dX4_stepBack_31 : decode cX4_stepBack 31 = .ok (.getfield 9, 3) := by decide +kernel
theorem dX4_stepBack_34 : decode cX4_stepBack 34 = .ok (.iload 5, 2) := by decide +kernel
theorem dX4_stepBack_36 : decode cX4_stepBack 36 = .ok (.iaload, 1) := by decide +kernel
theorem dX4_stepBack_37 : decode cX4_stepBack 37 = .ok (.aload_n 1, 1) := by decide +kernel
theorem dX4_stepBack_38 : decode cX4_stepBack 38 = .ok (.iload 4, 2) := by decide +kernel
theorem dX4_stepBack_40 : decode cX4_stepBack 40 = .ok (.invokevirtual 46, 3) := by decide +kernel
theorem dX4_stepBack_43 : decode cX4_stepBack 43 = .ok (.iadd, 1) := by decide +kernel
theorem dX4_stepBack_44 : decode cX4_stepBack 44 = .ok (.aload_n 0, 1) := by decide +kernel
theorem dX4_stepBack_45 : decode cX4_stepBack 45 = .ok (.getfield 9, 3) := by decide +kernel
theorem dX4_stepBack_48 : decode cX4_stepBack 48 = .ok (.iload_n 2, 1) := by decide +kernel
theorem dX4_stepBack_49 : decode cX4_stepBack 49 = .ok (.iaload, 1) := by decide +kernel
theorem dX4_stepBack_50 : decode cX4_stepBack 50 = .ok (.if_icmp .ne 24, 3) := by decide +kernel
theorem dX4_stepBack_53 : decode cX4_stepBack 53 = .ok (.aload_n 0, 1) := by decide +kernel
theorem dX4_stepBack_54 : decode cX4_stepBack 54 = .ok (.getfield 15, 3) := by decide +kernel
theorem dX4_stepBack_57 : decode cX4_stepBack 57 = .ok (.iload 4, 2) := by decide +kernel
theorem dX4_stepBack_59 : decode cX4_stepBack 59 = .ok (.iload 5, 2) := by decide +kernel
theorem dX4_stepBack_61 : decode cX4_stepBack 61 = .ok (.iload_n 2, 1) := by decide +kernel
theorem dX4_stepBack_62 : decode cX4_stepBack 62 = .ok (.if_icmp .ge 7, 3) := by decide +kernel
theorem dX4_stepBack_65 : decode cX4_stepBack 65 = .ok (.iconst 1, 1) := by decide +kernel
theorem dX4_stepBack_66 : decode cX4_stepBack 66 = .ok (.goto 4, 3) := by decide +kernel
theorem dX4_stepBack_69 : decode cX4_stepBack 69 = .ok (.iconst (-1), 1) := by decide +kernel
theorem dX4_stepBack_70 : decode cX4_stepBack 70 = .ok (.iastore, 1) := by decide +kernel
theorem dX4_stepBack_71 : decode cX4_stepBack 71 = .ok (.iload 5, 2) := by decide +kernel
theorem dX4_stepBack_73 : decode cX4_stepBack 73 = .ok (.ireturn, 1) := by decide +kernel
theorem dX4_stepBack_74 : decode cX4_stepBack 74 = .ok (.iinc 3 1, 3) := by decide +kernel
theorem dX4_stepBack_77 : decode cX4_stepBack 77 = .ok (.goto (-75), 3) := by decide +kernel
theorem dX4_stepBack_80 : decode cX4_stepBack 80 = .ok (.iload_n 2, 1) := by decide +kernel
theorem dX4_stepBack_81 : decode cX4_stepBack 81 = .ok (.ireturn, 1) := by decide +kernel
set_option maxRecDepth 20000 in
theorem ggX4_measureBesideTaken_X2_low : GoodIn wsX4_measureBesideTaken wsX2_low := goodIn_r _ [7, 8, 27, 28, 29, 30, 31, 32, 33] (by decide +kernel) (by decide +kernel)
set_option maxRecDepth 20000 in
theorem gX4_measureBesideTaken_X2_low : GoodIn wsX4_measureBesideTaken (wsV RX4 51 RX2 yX2_low wsX2_low) := goodIn_app (goodIn_of _ (by decide +kernel)) ggX4_measureBesideTaken_X2_low
set_option maxRecDepth 20000 in
theorem ggX4_measureBesideTaken_X2_high : GoodIn wsX4_measureBesideTaken wsX2_high := goodIn_r _ [12, 13, 27, 28, 29, 30, 31, 32, 33] (by decide +kernel) (by decide +kernel)
set_option maxRecDepth 20000 in
theorem gX4_measureBesideTaken_X2_high : GoodIn wsX4_measureBesideTaken (wsV RX4 54 RX2 yX2_high wsX2_high) := goodIn_app (goodIn_of _ (by decide +kernel)) ggX4_measureBesideTaken_X2_high
set_option maxRecDepth 20000 in
theorem ggX4_measureBesideTaken_X4_lower : GoodIn wsX4_measureBesideTaken wsX4_lower := goodIn_r _ [18, 19, 1, 2, 20, 21, 22, 6, 23, 24, 25, 26, 27, 28, 29, 30, 31, 32, 33] (by decide +kernel) (by decide +kernel)
set_option maxRecDepth 20000 in
theorem gX4_measureBesideTaken_X4_lower : GoodIn wsX4_measureBesideTaken (wsV RX4 57 RX4 yX4_lower wsX4_lower) := goodIn_app (goodIn_of _ (by decide +kernel)) ggX4_measureBesideTaken_X4_lower
theorem dX4_measureBesideTaken_0 : decode cX4_measureBesideTaken 0 = .ok (.iconst 0, 1) := by decide +kernel
theorem dX4_measureBesideTaken_1 : decode cX4_measureBesideTaken 1 = .ok (.istore_n 3, 1) := by decide +kernel
theorem dX4_measureBesideTaken_2 : decode cX4_measureBesideTaken 2 = .ok (.iload_n 3, 1) := by decide +kernel
theorem dX4_measureBesideTaken_3 : decode cX4_measureBesideTaken 3 = .ok (.bipush 36, 2) := by decide +kernel
theorem dX4_measureBesideTaken_5 : decode cX4_measureBesideTaken 5 = .ok (.if_icmp .ge 26, 3) := by decide +kernel
theorem dX4_measureBesideTaken_8 : decode cX4_measureBesideTaken 8 = .ok (.aload_n 0, 1) := by decide +kernel
theorem dX4_measureBesideTaken_9 : decode cX4_measureBesideTaken 9 = .ok (.getfield 9, 3) := by decide +kernel
theorem dX4_measureBesideTaken_12 : decode cX4_measureBesideTaken 12 = .ok (.iload_n 3, 1) := by decide +kernel
theorem dX4_measureBesideTaken_13 : decode cX4_measureBesideTaken 13 = .ok (.iload_n 3, 1) := by decide +kernel
theorem dX4_measureBesideTaken_14 : decode cX4_measureBesideTaken 14 = .ok (.iload_n 2, 1) := by decide +kernel
theorem dX4_measureBesideTaken_15 : decode cX4_measureBesideTaken 15 = .ok (.if_icmp .ne 7, 3) := by decide +kernel
theorem dX4_measureBesideTaken_18 : decode cX4_measureBesideTaken 18 = .ok (.iconst 0, 1) := by decide +kernel
theorem dX4_measureBesideTaken_19 : decode cX4_measureBesideTaken 19 = .ok (.goto 5, 3) := by decide +kernel
theorem dX4_measureBesideTaken_22 : decode cX4_measureBesideTaken 22 = .ok (.ldc 50, 2) := by decide +kernel
theorem dX4_measureBesideTaken_24 : decode cX4_measureBesideTaken 24 = .ok (.iastore, 1) := by decide +kernel
theorem dX4_measureBesideTaken_25 : decode cX4_measureBesideTaken 25 = .ok (.iinc 3 1, 3) := by decide +kernel
theorem dX4_measureBesideTaken_28 : decode cX4_measureBesideTaken 28 = .ok (.goto (-26), 3) := by decide +kernel
theorem dX4_measureBesideTaken_31 : decode cX4_measureBesideTaken 31 = .ok (.iconst 1, 1) := by decide +kernel
theorem dX4_measureBesideTaken_32 : decode cX4_measureBesideTaken 32 = .ok (.istore_n 3, 1) := by decide +kernel
theorem dX4_measureBesideTaken_33 : decode cX4_measureBesideTaken 33 = .ok (.iconst 0, 1) := by decide +kernel
theorem dX4_measureBesideTaken_34 : decode cX4_measureBesideTaken 34 = .ok (.istore 4, 2) := by decide +kernel
theorem dX4_measureBesideTaken_36 : decode cX4_measureBesideTaken 36 = .ok (.iload 4, 2) := by decide +kernel
theorem dX4_measureBesideTaken_38 : decode cX4_measureBesideTaken 38 = .ok (.bipush 36, 2) := by decide +kernel
theorem dX4_measureBesideTaken_40 : decode cX4_measureBesideTaken 40 = .ok (.if_icmp .ge 75, 3) := by decide +kernel
theorem dX4_measureBesideTaken_43 : decode cX4_measureBesideTaken 43 = .ok (.iload_n 3, 1) := by decide +kernel
theorem dX4_measureBesideTaken_44 : decode cX4_measureBesideTaken 44 = .ok (.ifCond .eq 71, 3) := by decide +kernel
theorem dX4_measureBesideTaken_47 : decode cX4_measureBesideTaken 47 = .ok (.iconst 0, 1) := by decide +kernel
theorem dX4_measureBesideTaken_48 : decode cX4_measureBesideTaken 48 = .ok (.istore_n 3, 1) := by decide +kernel
theorem dX4_measureBesideTaken_49 : decode cX4_measureBesideTaken 49 = .ok (.iconst 0, 1) := by decide +kernel
theorem dX4_measureBesideTaken_50 : decode cX4_measureBesideTaken 50 = .ok (.istore 5, 2) := by decide +kernel
theorem dX4_measureBesideTaken_52 : decode cX4_measureBesideTaken 52 = .ok (.iload 5, 2) := by decide +kernel
theorem dX4_measureBesideTaken_54 : decode cX4_measureBesideTaken 54 = .ok (.bipush 60, 2) := by decide +kernel
theorem dX4_measureBesideTaken_56 : decode cX4_measureBesideTaken 56 = .ok (.if_icmp .ge 53, 3) := by decide +kernel
theorem dX4_measureBesideTaken_59 : decode cX4_measureBesideTaken 59 = .ok (.aload_n 1, 1) := by decide +kernel
theorem dX4_measureBesideTaken_60 : decode cX4_measureBesideTaken 60 = .ok (.iload 5, 2) := by decide +kernel
theorem dX4_measureBesideTaken_62 : decode cX4_measureBesideTaken 62 = .ok (.invokevirtual 51, 3) := by decide +kernel
theorem dX4_measureBesideTaken_65 : decode cX4_measureBesideTaken 65 = .ok (.istore 6, 2) := by decide +kernel
theorem dX4_measureBesideTaken_67 : decode cX4_measureBesideTaken 67 = .ok (.aload_n 1, 1) := by decide +kernel
theorem dX4_measureBesideTaken_68 : decode cX4_measureBesideTaken 68 = .ok (.iload 5, 2) := by decide +kernel
theorem dX4_measureBesideTaken_70 : decode cX4_measureBesideTaken 70 = .ok (.invokevirtual 54, 3) := by decide +kernel
theorem dX4_measureBesideTaken_73 : decode cX4_measureBesideTaken 73 = .ok (.istore 7, 2) := by decide +kernel
theorem dX4_measureBesideTaken_75 : decode cX4_measureBesideTaken 75 = .ok (.iload_n 3, 1) := by decide +kernel
theorem dX4_measureBesideTaken_76 : decode cX4_measureBesideTaken 76 = .ok (.aload_n 0, 1) := by decide +kernel
theorem dX4_measureBesideTaken_77 : decode cX4_measureBesideTaken 77 = .ok (.aload_n 1, 1) := by decide +kernel
theorem dX4_measureBesideTaken_78 : decode cX4_measureBesideTaken 78 = .ok (.iload 5, 2) := by decide +kernel
theorem dX4_measureBesideTaken_80 : decode cX4_measureBesideTaken 80 = .ok (.iload 6, 2) := by decide +kernel
theorem dX4_measureBesideTaken_82 : decode cX4_measureBesideTaken 82 = .ok (.iload 7, 2) := by decide +kernel
theorem dX4_measureBesideTaken_84 : decode cX4_measureBesideTaken 84 = .ok (.invokevirtual 57, 3) := by decide +kernel
theorem dX4_measureBesideTaken_87 : decode cX4_measureBesideTaken 87 = .ok (.ior, 1) := by decide +kernel
theorem dX4_measureBesideTaken_88 : decode cX4_measureBesideTaken 88 = .ok (.istore_n 3, 1) := by decide +kernel
theorem dX4_measureBesideTaken_89 : decode cX4_measureBesideTaken 89 = .ok (.iload_n 3, 1) := by decide +kernel
theorem dX4_measureBesideTaken_90 : decode cX4_measureBesideTaken 90 = .ok (.aload_n 0, 1) := by decide +kernel
theorem dX4_measureBesideTaken_91 : decode cX4_measureBesideTaken 91 = .ok (.aload_n 1, 1) := by decide +kernel
theorem dX4_measureBesideTaken_92 : decode cX4_measureBesideTaken 92 = .ok (.iload 5, 2) := by decide +kernel
theorem dX4_measureBesideTaken_94 : decode cX4_measureBesideTaken 94 = .ok (.iload 7, 2) := by decide +kernel
theorem dX4_measureBesideTaken_96 : decode cX4_measureBesideTaken 96 = .ok (.iload 6, 2) := by decide +kernel
theorem dX4_measureBesideTaken_98 : decode cX4_measureBesideTaken 98 = .ok (.invokevirtual 57, 3) := by decide +kernel
theorem dX4_measureBesideTaken_101 : decode cX4_measureBesideTaken 101 = .ok (.ior, 1) := by decide +kernel
theorem dX4_measureBesideTaken_102 : decode cX4_measureBesideTaken 102 = .ok (.istore_n 3, 1) := by decide +kernel
theorem dX4_measureBesideTaken_103 : decode cX4_measureBesideTaken 103 = .ok (.iinc 5 1, 3) := by decide +kernel
theorem dX4_measureBesideTaken_106 : decode cX4_measureBesideTaken 106 = .ok (.goto (-54), 3) := by decide +kernel
theorem dX4_measureBesideTaken_109 : decode cX4_measureBesideTaken 109 = .ok (.iinc 4 1, 3) := by decide +kernel
theorem dX4_measureBesideTaken_112 : decode cX4_measureBesideTaken 112 = .ok (.goto (-76), 3) := by decide +kernel
theorem dX4_measureBesideTaken_115 : decode cX4_measureBesideTaken 115 = .ok (.return_, 1) := by decide +kernel
set_option maxRecDepth 20000 in
theorem ggX4_lower_X2_price : GoodIn wsX4_lower wsX2_price := goodIn_r _ [8, 9, 12, 13, 14, 15, 16, 17, 18] (by decide +kernel) (by decide +kernel)
set_option maxRecDepth 20000 in
theorem gX4_lower_X2_price : GoodIn wsX4_lower (wsV RX4 46 RX2 yX2_price wsX2_price) := goodIn_app (goodIn_of _ (by decide +kernel)) ggX4_lower_X2_price
theorem dX4_lower_0 : decode cX4_lower 0 = .ok (.iload_n 3, 1) := by decide +kernel
theorem dX4_lower_1 : decode cX4_lower 1 = .ok (.iload 4, 2) := by decide +kernel
theorem dX4_lower_3 : decode cX4_lower 3 = .ok (.if_icmp .ge 12, 3) := by decide +kernel
theorem dX4_lower_6 : decode cX4_lower 6 = .ok (.aload_n 0, 1) := by decide +kernel
theorem dX4_lower_7 : decode cX4_lower 7 = .ok (.getfield 15, 3) := by decide +kernel
theorem dX4_lower_10 : decode cX4_lower 10 = .ok (.iload_n 2, 1) := by decide +kernel
theorem dX4_lower_11 : decode cX4_lower 11 = .ok (.iaload, 1) := by decide +kernel
theorem dX4_lower_12 : decode cX4_lower 12 = .ok (.goto 10, 3) := by decide +kernel
theorem dX4_lower_15 : decode cX4_lower 15 = .ok (.aload_n 0, 1) := by decide +kernel
theorem dX4_lower_16 : decode cX4_lower 16 = .ok (.getfield 15, 3) := by decide +kernel
theorem dX4_lower_19 : decode cX4_lower 19 = .ok (.iload_n 2, 1) := by decide +kernel
theorem dX4_lower_20 : decode cX4_lower 20 = .ok (.iaload, 1) := by decide +kernel
theorem dX4_lower_21 : decode cX4_lower 21 = .ok (.ineg, 1) := by decide +kernel
theorem dX4_lower_22 : decode cX4_lower 22 = .ok (.istore 5, 2) := by decide +kernel
theorem dX4_lower_24 : decode cX4_lower 24 = .ok (.iload 5, 2) := by decide +kernel
theorem dX4_lower_26 : decode cX4_lower 26 = .ok (.ifCond .gt 14, 3) := by decide +kernel
theorem dX4_lower_29 : decode cX4_lower 29 = .ok (.aload_n 0, 1) := by decide +kernel
theorem dX4_lower_30 : decode cX4_lower 30 = .ok (.getfield 9, 3) := by decide +kernel
theorem dX4_lower_33 : decode cX4_lower 33 = .ok (.iload_n 3, 1) := by decide +kernel
theorem dX4_lower_34 : decode cX4_lower 34 = .ok (.iaload, 1) := by decide +kernel
theorem dX4_lower_35 : decode cX4_lower 35 = .ok (.ldc 50, 2) := by decide +kernel
theorem dX4_lower_37 : decode cX4_lower 37 = .ok (.if_icmp .ne 5, 3) := by decide +kernel
theorem dX4_lower_40 : decode cX4_lower 40 = .ok (.iconst 0, 1) := by decide +kernel
theorem dX4_lower_41 : decode cX4_lower 41 = .ok (.ireturn, 1) := by decide +kernel
theorem dX4_lower_42 : decode cX4_lower 42 = .ok (.aload_n 0, 1) := by decide +kernel
theorem dX4_lower_43 : decode cX4_lower 43 = .ok (.getfield 9, 3) := by decide +kernel
theorem dX4_lower_46 : decode cX4_lower 46 = .ok (.iload_n 3, 1) := by decide +kernel
theorem dX4_lower_47 : decode cX4_lower 47 = .ok (.iaload, 1) := by decide +kernel
theorem dX4_lower_48 : decode cX4_lower 48 = .ok (.iload 5, 2) := by decide +kernel
theorem dX4_lower_50 : decode cX4_lower 50 = .ok (.ifCond .ge 12, 3) := by decide +kernel
theorem dX4_lower_53 : decode cX4_lower 53 = .ok (.aload_n 1, 1) := by decide +kernel
theorem dX4_lower_54 : decode cX4_lower 54 = .ok (.iload_n 2, 1) := by decide +kernel
theorem dX4_lower_55 : decode cX4_lower 55 = .ok (.invokevirtual 46, 3) := by decide +kernel
theorem dX4_lower_58 : decode cX4_lower 58 = .ok (.ineg, 1) := by decide +kernel
theorem dX4_lower_59 : decode cX4_lower 59 = .ok (.goto 8, 3) := by decide +kernel
theorem dX4_lower_62 : decode cX4_lower 62 = .ok (.aload_n 1, 1) := by decide +kernel
theorem dX4_lower_63 : decode cX4_lower 63 = .ok (.iload_n 2, 1) := by decide +kernel
theorem dX4_lower_64 : decode cX4_lower 64 = .ok (.invokevirtual 46, 3) := by decide +kernel
theorem dX4_lower_67 : decode cX4_lower 67 = .ok (.iadd, 1) := by decide +kernel
theorem dX4_lower_68 : decode cX4_lower 68 = .ok (.istore 6, 2) := by decide +kernel
theorem dX4_lower_70 : decode cX4_lower 70 = .ok (.iload 6, 2) := by decide +kernel
theorem dX4_lower_72 : decode cX4_lower 72 = .ok (.aload_n 0, 1) := by decide +kernel
theorem dX4_lower_73 : decode cX4_lower 73 = .ok (.getfield 9, 3) := by decide +kernel
theorem dX4_lower_76 : decode cX4_lower 76 = .ok (.iload 4, 2) := by decide +kernel
theorem dX4_lower_78 : decode cX4_lower 78 = .ok (.iaload, 1) := by decide +kernel
theorem dX4_lower_79 : decode cX4_lower 79 = .ok (.if_icmp .lt 5, 3) := by decide +kernel
theorem dX4_lower_82 : decode cX4_lower 82 = .ok (.iconst 0, 1) := by decide +kernel
theorem dX4_lower_83 : decode cX4_lower 83 = .ok (.ireturn, 1) := by decide +kernel
theorem dX4_lower_84 : decode cX4_lower 84 = .ok (.aload_n 0, 1) := by decide +kernel
theorem dX4_lower_85 : decode cX4_lower 85 = .ok (.getfield 9, 3) := by decide +kernel
theorem dX4_lower_88 : decode cX4_lower 88 = .ok (.iload 4, 2) := by decide +kernel
theorem dX4_lower_90 : decode cX4_lower 90 = .ok (.iload 6, 2) := by decide +kernel
theorem dX4_lower_92 : decode cX4_lower 92 = .ok (.iastore, 1) := by decide +kernel
theorem dX4_lower_93 : decode cX4_lower 93 = .ok (.iconst 1, 1) := by decide +kernel
theorem dX4_lower_94 : decode cX4_lower 94 = .ok (.ireturn, 1) := by decide +kernel
set_option maxRecDepth 20000 in
theorem ggX5_init_X2_init : GoodIn wsX5_init wsX2_init := goodIn_r _ [26, 27, 2, 3, 28, 29, 30, 31, 32, 33, 34, 35, 69, 70, 71, 72, 73, 74, 75] (by decide +kernel) (by decide +kernel)
set_option maxRecDepth 20000 in
theorem gX5_init_X2_init : GoodIn wsX5_init (wsX2_init) := ggX5_init_X2_init
set_option maxRecDepth 20000 in
theorem ggX5_init_X4_init : GoodIn wsX5_init wsX4_init := goodIn_r _ [37, 38, 2, 3, 28, 39, 40, 81, 82] (by decide +kernel) (by decide +kernel)
set_option maxRecDepth 20000 in
theorem gX5_init_X4_init_n18 : GoodIn wsX5_init (wsX4_init) := ggX5_init_X4_init
set_option maxRecDepth 20000 in
theorem ggX5_init_X3_init : GoodIn wsX5_init wsX3_init := goodIn_r _ [42, 43, 2, 3, 28, 44, 45, 46, 47, 48, 49, 50, 83, 84, 85, 86, 87, 88, 89] (by decide +kernel) (by decide +kernel)
set_option maxRecDepth 20000 in
theorem gX5_init_X3_init_n25 : GoodIn wsX5_init (wsX3_init) := ggX5_init_X3_init
set_option maxRecDepth 20000 in
theorem ggX5_init_X0_init : GoodIn wsX5_init wsX0_init := goodIn_r _ [52, 53, 2, 3, 28, 54, 55, 56, 57, 90, 91, 92, 93] (by decide +kernel) (by decide +kernel)
set_option maxRecDepth 20000 in
theorem gX5_init_X0_init_n32 : GoodIn wsX5_init (wsX0_init) := ggX5_init_X0_init
set_option maxRecDepth 20000 in
theorem ggX5_init_X1_init : GoodIn wsX5_init wsX1_init := goodIn_r _ [59, 60, 2, 3, 28, 61, 62, 63, 64, 65, 66, 67, 68, 94, 95, 96, 97, 98, 99, 100] (by decide +kernel) (by decide +kernel)
set_option maxRecDepth 20000 in
theorem gX5_init_X1_init_n39 : GoodIn wsX5_init (wsX1_init) := ggX5_init_X1_init
theorem dX5_init_0 : decode cX5_init 0 = .ok (.aload_n 0, 1) := by decide +kernel
theorem dX5_init_1 : decode cX5_init 1 = .ok (.invokespecial 1, 3) := by decide +kernel
theorem dX5_init_4 : decode cX5_init 4 = .ok (.aload_n 0, 1) := by decide +kernel
theorem dX5_init_5 : decode cX5_init 5 = .ok (.new 7, 3) := by decide +kernel
theorem dX5_init_8 : decode cX5_init 8 = .ok (.dup, 1) := by decide +kernel
theorem dX5_init_9 : decode cX5_init 9 = .ok (.invokespecial 9, 3) := by decide +kernel
theorem dX5_init_12 : decode cX5_init 12 = .ok (.putfield 10, 3) := by decide +kernel
theorem dX5_init_15 : decode cX5_init 15 = .ok (.aload_n 0, 1) := by decide +kernel
theorem dX5_init_16 : decode cX5_init 16 = .ok (.new 16, 3) := by decide +kernel
theorem dX5_init_19 : decode cX5_init 19 = .ok (.dup, 1) := by decide +kernel
theorem dX5_init_20 : decode cX5_init 20 = .ok (.invokespecial 18, 3) := by decide +kernel
theorem dX5_init_23 : decode cX5_init 23 = .ok (.putfield 19, 3) := by decide +kernel
theorem dX5_init_26 : decode cX5_init 26 = .ok (.aload_n 0, 1) := by decide +kernel
theorem dX5_init_27 : decode cX5_init 27 = .ok (.new 23, 3) := by decide +kernel
theorem dX5_init_30 : decode cX5_init 30 = .ok (.dup, 1) := by decide +kernel
theorem dX5_init_31 : decode cX5_init 31 = .ok (.invokespecial 25, 3) := by decide +kernel
theorem dX5_init_34 : decode cX5_init 34 = .ok (.putfield 26, 3) := by decide +kernel
theorem dX5_init_37 : decode cX5_init 37 = .ok (.aload_n 0, 1) := by decide +kernel
theorem dX5_init_38 : decode cX5_init 38 = .ok (.new 30, 3) := by decide +kernel
theorem dX5_init_41 : decode cX5_init 41 = .ok (.dup, 1) := by decide +kernel
theorem dX5_init_42 : decode cX5_init 42 = .ok (.invokespecial 32, 3) := by decide +kernel
theorem dX5_init_45 : decode cX5_init 45 = .ok (.putfield 33, 3) := by decide +kernel
theorem dX5_init_48 : decode cX5_init 48 = .ok (.aload_n 0, 1) := by decide +kernel
theorem dX5_init_49 : decode cX5_init 49 = .ok (.new 37, 3) := by decide +kernel
theorem dX5_init_52 : decode cX5_init 52 = .ok (.dup, 1) := by decide +kernel
theorem dX5_init_53 : decode cX5_init 53 = .ok (.invokespecial 39, 3) := by decide +kernel
theorem dX5_init_56 : decode cX5_init 56 = .ok (.putfield 40, 3) := by decide +kernel
theorem dX5_init_59 : decode cX5_init 59 = .ok (.return_, 1) := by decide +kernel
set_option maxRecDepth 20000 in
theorem ggX5_cost_X1_energyNow : GoodIn wsX5_cost wsX1_energyNow := goodIn_r _ [9, 10, 11, 12, 8, 13, 14, 15, 16, 17, 18, 19, 20, 21, 22, 23, 24, 25, 26, 27, 28, 29, 59, 60, 61, 62, 63, 64, 65, 66, 67, 68, 69, 70, 71, 72] (by decide +kernel) (by decide +kernel)
set_option maxRecDepth 20000 in
theorem gX5_cost_X1_energyNow : GoodIn wsX5_cost (wsV RX5 53 RX1 yX1_energyNow wsX1_energyNow) := goodIn_app (goodIn_of _ (by decide +kernel)) ggX5_cost_X1_energyNow
set_option maxRecDepth 20000 in
theorem ggX5_cost_X2_changeDirection : GoodIn wsX5_cost wsX2_changeDirection := goodIn_r _ [33, 34, 35, 29, 36, 66, 67, 68, 69, 70, 71, 72] (by decide +kernel) (by decide +kernel)
set_option maxRecDepth 20000 in
theorem gX5_cost_X2_changeDirection : GoodIn wsX5_cost (wsV RX5 57 RX2 yX2_changeDirection wsX2_changeDirection) := goodIn_app (goodIn_of _ (by decide +kernel)) ggX5_cost_X2_changeDirection
set_option maxRecDepth 20000 in
theorem ggX5_cost_X5_takeInNewPrices : GoodIn wsX5_cost wsX5_takeInNewPrices := goodIn_r _ [41, 42, 3, 4, 43, 44, 45, 46, 47, 48, 5, 6, 7, 8, 9, 10, 11, 12, 13, 14, 15, 16, 17, 18, 19, 20, 21, 22, 23, 24, 25, 26, 27, 28, 29, 49, 50, 51, 52, 53, 54, 55, 56, 57, 58, 73, 74, 75, 76, 77, 78, 79, 59, 60, 61, 62, 63, 64, 65, 66, 67, 68, 69, 70, 71, 72] (by decide +kernel) (by decide +kernel)
set_option maxRecDepth 20000 in
theorem gX5_cost_X5_takeInNewPrices : GoodIn wsX5_cost (wsV RX5 61 RX5 yX5_takeInNewPrices wsX5_takeInNewPrices) := goodIn_app (goodIn_of _ (by decide +kernel)) ggX5_cost_X5_takeInNewPrices
theorem dX5_cost_0 : decode cX5_cost 0 = .ok (.iload_n 1, 1) := by decide +kernel
theorem dX5_cost_1 : decode cX5_cost 1 = .ok (.ifCond .lt 8, 3) := by decide +kernel
theorem dX5_cost_4 : decode cX5_cost 4 = .ok (.iload_n 1, 1) := by decide +kernel
theorem dX5_cost_5 : decode cX5_cost 5 = .ok (.iconst 1, 1) := by decide +kernel
theorem dX5_cost_6 : decode cX5_cost 6 = .ok (.if_icmp .le 13, 3) := by decide +kernel
theorem dX5_cost_9 : decode cX5_cost 9 = .ok (.new 44, 3) := by decide +kernel
theorem dX5_cost_12 : decode cX5_cost 12 = .ok (.dup, 1) := by decide +kernel
theorem dX5_cost_13 : decode cX5_cost 13 = .ok (.ldc 46, 2) := by decide +kernel
theorem dX5_cost_15 : decode cX5_cost 15 = .ok (.invokespecial 48, 3) := by decide +kernel
theorem dX5_cost_18 : decode cX5_cost 18 = .ok (.athrow, 1) := by decide +kernel
theorem dX5_cost_19 : decode cX5_cost 19 = .ok (.iload_n 2, 1) := by decide +kernel
theorem dX5_cost_20 : decode cX5_cost 20 = .ok (.iconst 1, 1) := by decide +kernel
theorem dX5_cost_21 : decode cX5_cost 21 = .ok (.if_icmp .lt 9, 3) := by decide +kernel
theorem dX5_cost_24 : decode cX5_cost 24 = .ok (.iload_n 2, 1) := by decide +kernel
theorem dX5_cost_25 : decode cX5_cost 25 = .ok (.bipush 9, 2) := by decide +kernel
theorem dX5_cost_27 : decode cX5_cost 27 = .ok (.if_icmp .le 13, 3) := by decide +kernel
theorem dX5_cost_30 : decode cX5_cost 30 = .ok (.new 44, 3) := by decide +kernel
theorem dX5_cost_33 : decode cX5_cost 33 = .ok (.dup, 1) := by decide +kernel
theorem dX5_cost_34 : decode cX5_cost 34 = .ok (.ldc 51, 2) := by decide +kernel
theorem dX5_cost_36 : decode cX5_cost 36 = .ok (.invokespecial 48, 3) := by decide +kernel
theorem dX5_cost_39 : decode cX5_cost 39 = .ok (.athrow, 1) := by decide +kernel
theorem dX5_cost_40 : decode cX5_cost 40 = .ok (.aload_n 0, 1) := by decide +kernel
theorem dX5_cost_41 : decode cX5_cost 41 = .ok (.getfield 40, 3) := by decide +kernel
theorem dX5_cost_44 : decode cX5_cost 44 = .ok (.aload_n 0, 1) := by decide +kernel
theorem dX5_cost_45 : decode cX5_cost 45 = .ok (.getfield 10, 3) := by decide +kernel
theorem dX5_cost_48 : decode cX5_cost 48 = .ok (.invokevirtual 53, 3) := by decide +kernel
theorem dX5_cost_51 : decode cX5_cost 51 = .ok (.istore_n 3, 1) := by decide +kernel
theorem dX5_cost_52 : decode cX5_cost 52 = .ok (.aload_n 0, 1) := by decide +kernel
theorem dX5_cost_53 : decode cX5_cost 53 = .ok (.getfield 10, 3) := by decide +kernel
theorem dX5_cost_56 : decode cX5_cost 56 = .ok (.iload_n 1, 1) := by decide +kernel
theorem dX5_cost_57 : decode cX5_cost 57 = .ok (.iload_n 2, 1) := by decide +kernel
theorem dX5_cost_58 : decode cX5_cost 58 = .ok (.invokevirtual 57, 3) := by decide +kernel
theorem dX5_cost_61 : decode cX5_cost 61 = .ok (.istore 4, 2) := by decide +kernel
theorem dX5_cost_63 : decode cX5_cost 63 = .ok (.aload_n 0, 1) := by decide +kernel
theorem dX5_cost_64 : decode cX5_cost 64 = .ok (.iload_n 3, 1) := by decide +kernel
theorem dX5_cost_65 : decode cX5_cost 65 = .ok (.invokevirtual 61, 3) := by decide +kernel
theorem dX5_cost_68 : decode cX5_cost 68 = .ok (.iload 4, 2) := by decide +kernel
theorem dX5_cost_70 : decode cX5_cost 70 = .ok (.ireturn, 1) := by decide +kernel
set_option maxRecDepth 20000 in
theorem ggX5_lay_X5_checkEdge : GoodIn wsX5_lay wsX5_checkEdge := goodIn_ca (goodIn_r _ [8, 9, 10] (by decide +kernel) (by decide +kernel)) (goodIn_sub (fun _ h => List.mem_cons_of_mem _ (List.mem_append_right _ h)) (by decide +kernel))
set_option maxRecDepth 20000 in
theorem gX5_lay_X5_checkEdge : GoodIn wsX5_lay (va_wsS RX5 65 yX5_checkEdge wsX5_checkEdge) := goodIn_app (goodIn_of _ (by decide +kernel)) ggX5_lay_X5_checkEdge
set_option maxRecDepth 20000 in
theorem ggX5_lay_X1_energyNow : GoodIn wsX5_lay wsX1_energyNow := goodIn_r _ [15, 16, 17, 18, 14, 19, 20, 21, 22, 23, 24, 25, 26, 27, 28, 29, 30, 31, 32, 33, 34, 35, 64, 65, 66, 67, 68, 69, 70, 71, 72, 73, 74, 75, 76, 77] (by decide +kernel) (by decide +kernel)
set_option maxRecDepth 20000 in
theorem gX5_lay_X1_energyNow : GoodIn wsX5_lay (wsV RX5 53 RX1 yX1_energyNow wsX1_energyNow) := goodIn_app (goodIn_of _ (by decide +kernel)) ggX5_lay_X1_energyNow
set_option maxRecDepth 20000 in
theorem ggX5_lay_X2_changeLaid : GoodIn wsX5_lay wsX2_changeLaid := goodIn_r _ [39, 40, 35, 41, 42, 71, 72, 73, 74, 75, 76, 77] (by decide +kernel) (by decide +kernel)
set_option maxRecDepth 20000 in
theorem gX5_lay_X2_changeLaid : GoodIn wsX5_lay (wsV RX5 70 RX2 yX2_changeLaid wsX2_changeLaid) := goodIn_app (goodIn_of _ (by decide +kernel)) ggX5_lay_X2_changeLaid
set_option maxRecDepth 20000 in
theorem ggX5_lay_X5_takeInNewPrices : GoodIn wsX5_lay wsX5_takeInNewPrices := goodIn_r _ [46, 47, 3, 4, 48, 49, 50, 51, 52, 53, 11, 12, 13, 14, 15, 16, 17, 18, 19, 20, 21, 22, 23, 24, 25, 26, 27, 28, 29, 30, 31, 32, 33, 34, 35, 54, 55, 56, 57, 58, 59, 60, 61, 62, 63, 78, 79, 80, 81, 82, 83, 84, 64, 65, 66, 67, 68, 69, 70, 71, 72, 73, 74, 75, 76, 77] (by decide +kernel) (by decide +kernel)
set_option maxRecDepth 20000 in
theorem gX5_lay_X5_takeInNewPrices : GoodIn wsX5_lay (wsV RX5 61 RX5 yX5_takeInNewPrices wsX5_takeInNewPrices) := goodIn_app (goodIn_of _ (by decide +kernel)) ggX5_lay_X5_takeInNewPrices
theorem dX5_lay_0 : decode cX5_lay 0 = .ok (.iload_n 1, 1) := by decide +kernel
theorem dX5_lay_1 : decode cX5_lay 1 = .ok (.invokestatic 65, 3) := by decide +kernel
theorem dX5_lay_4 : decode cX5_lay 4 = .ok (.iload_n 2, 1) := by decide +kernel
theorem dX5_lay_5 : decode cX5_lay 5 = .ok (.ifCond .lt 9, 3) := by decide +kernel
theorem dX5_lay_8 : decode cX5_lay 8 = .ok (.iload_n 2, 1) := by decide +kernel
theorem dX5_lay_9 : decode cX5_lay 9 = .ok (.bipush 50, 2) := by decide +kernel
theorem dX5_lay_11 : decode cX5_lay 11 = .ok (.if_icmp .le 13, 3) := by decide +kernel
theorem dX5_lay_14 : decode cX5_lay 14 = .ok (.new 44, 3) := by decide +kernel
theorem dX5_lay_17 : decode cX5_lay 17 = .ok (.dup, 1) := by decide +kernel
theorem dX5_lay_18 : decode cX5_lay 18 = .ok (.ldc 68, 2) := by decide +kernel
theorem dX5_lay_20 : decode cX5_lay 20 = .ok (.invokespecial 48, 3) := by decide +kernel
theorem dX5_lay_23 : decode cX5_lay 23 = .ok (.athrow, 1) := by decide +kernel
theorem dX5_lay_24 : decode cX5_lay 24 = .ok (.aload_n 0, 1) := by decide +kernel
theorem dX5_lay_25 : decode cX5_lay 25 = .ok (.getfield 40, 3) := by decide +kernel
theorem dX5_lay_28 : decode cX5_lay 28 = .ok (.aload_n 0, 1) := by decide +kernel
theorem dX5_lay_29 : decode cX5_lay 29 = .ok (.getfield 10, 3) := by decide +kernel
theorem dX5_lay_32 : decode cX5_lay 32 = .ok (.invokevirtual 53, 3) := by decide +kernel
theorem dX5_lay_35 : decode cX5_lay 35 = .ok (.istore_n 3, 1) := by decide +kernel
theorem dX5_lay_36 : decode cX5_lay 36 = .ok (.aload_n 0, 1) := by decide +kernel
theorem dX5_lay_37 : decode cX5_lay 37 = .ok (.getfield 10, 3) := by decide +kernel
theorem dX5_lay_40 : decode cX5_lay 40 = .ok (.iload_n 1, 1) := by decide +kernel
theorem dX5_lay_41 : decode cX5_lay 41 = .ok (.iload_n 2, 1) := by decide +kernel
theorem dX5_lay_42 : decode cX5_lay 42 = .ok (.invokevirtual 70, 3) := by decide +kernel
theorem dX5_lay_45 : decode cX5_lay 45 = .ok (.istore 4, 2) := by decide +kernel
theorem dX5_lay_47 : decode cX5_lay 47 = .ok (.aload_n 0, 1) := by decide +kernel
theorem dX5_lay_48 : decode cX5_lay 48 = .ok (.iload_n 3, 1) := by decide +kernel
theorem dX5_lay_49 : decode cX5_lay 49 = .ok (.invokevirtual 61, 3) := by decide +kernel
theorem dX5_lay_52 : decode cX5_lay 52 = .ok (.iload 4, 2) := by decide +kernel
theorem dX5_lay_54 : decode cX5_lay 54 = .ok (.ireturn, 1) := by decide +kernel
set_option maxRecDepth 20000 in
theorem ggX5_edge_X5_checkEdge : GoodIn wsX5_edge wsX5_checkEdge := goodIn_ca (goodIn_r _ [5, 6, 7] (by decide +kernel) (by decide +kernel)) (goodIn_sub (fun _ h => List.mem_cons_of_mem _ (List.mem_append_right _ h)) (by decide +kernel))
set_option maxRecDepth 20000 in
theorem gX5_edge_X5_checkEdge : GoodIn wsX5_edge (va_wsS RX5 65 yX5_checkEdge wsX5_checkEdge) := goodIn_app (goodIn_of _ (by decide +kernel)) ggX5_edge_X5_checkEdge
set_option maxRecDepth 20000 in
theorem ggX5_edge_X2_price : GoodIn wsX5_edge wsX2_price := goodIn_r _ [12, 13, 19, 20, 21, 22, 23, 24, 25] (by decide +kernel) (by decide +kernel)
set_option maxRecDepth 20000 in
theorem gX5_edge_X2_price : GoodIn wsX5_edge (wsV RX5 73 RX2 yX2_price wsX2_price) := goodIn_app (goodIn_of _ (by decide +kernel)) ggX5_edge_X2_price
theorem dX5_edge_0 : decode cX5_edge 0 = .ok (.iload_n 1, 1) := by decide +kernel
theorem dX5_edge_1 : decode cX5_edge 1 = .ok (.invokestatic 65, 3) := by decide +kernel
theorem dX5_edge_4 : decode cX5_edge 4 = .ok (.aload_n 0, 1) := by decide +kernel
theorem dX5_edge_5 : decode cX5_edge 5 = .ok (.getfield 10, 3) := by decide +kernel
theorem dX5_edge_8 : decode cX5_edge 8 = .ok (.iload_n 1, 1) := by decide +kernel
theorem dX5_edge_9 : decode cX5_edge 9 = .ok (.invokevirtual 73, 3) := by decide +kernel
theorem dX5_edge_12 : decode cX5_edge 12 = .ok (.ireturn, 1) := by decide +kernel
set_option maxRecDepth 20000 in
theorem ggX5_apart_X5_checkNode : GoodIn wsX5_apart wsX5_checkNode := goodIn_ca (goodIn_r _ [6, 7, 8] (by decide +kernel) (by decide +kernel)) (goodIn_sub (fun _ h => List.mem_cons_of_mem _ (List.mem_append_right _ h)) (by decide +kernel))
set_option maxRecDepth 20000 in
theorem gX5_apart_X5_checkNode : GoodIn wsX5_apart (va_wsS RX5 77 yX5_checkNode wsX5_checkNode) := goodIn_app (goodIn_of _ (by decide +kernel)) ggX5_apart_X5_checkNode
set_option maxRecDepth 20000 in
theorem ggX5_apart_X4_cheapest : GoodIn wsX5_apart wsX4_cheapest := goodIn_r _ [13, 14, 15, 16, 17, 18, 19, 20, 21, 22, 23, 24, 25, 26, 27, 28, 29, 30, 31, 37, 38, 39, 40, 41, 42, 43, 44, 45] (by decide +kernel) (by decide +kernel)
set_option maxRecDepth 20000 in
theorem gX5_apart_X4_cheapest : GoodIn wsX5_apart (wsV RX5 80 RX4 yX4_cheapest wsX4_cheapest) := goodIn_app (goodIn_of _ (by decide +kernel)) ggX5_apart_X4_cheapest
theorem dX5_apart_0 : decode cX5_apart 0 = .ok (.iload_n 1, 1) := by decide +kernel
theorem dX5_apart_1 : decode cX5_apart 1 = .ok (.invokestatic 77, 3) := by decide +kernel
theorem dX5_apart_4 : decode cX5_apart 4 = .ok (.iload_n 2, 1) := by decide +kernel
theorem dX5_apart_5 : decode cX5_apart 5 = .ok (.invokestatic 77, 3) := by decide +kernel
theorem dX5_apart_8 : decode cX5_apart 8 = .ok (.aload_n 0, 1) := by decide +kernel
theorem dX5_apart_9 : decode cX5_apart 9 = .ok (.getfield 19, 3) := by decide +kernel
theorem dX5_apart_12 : decode cX5_apart 12 = .ok (.aload_n 0, 1) := by decide +kernel
theorem dX5_apart_13 : decode cX5_apart 13 = .ok (.getfield 10, 3) := by decide +kernel
theorem dX5_apart_16 : decode cX5_apart 16 = .ok (.iload_n 1, 1) := by decide +kernel
theorem dX5_apart_17 : decode cX5_apart 17 = .ok (.iload_n 2, 1) := by decide +kernel
theorem dX5_apart_18 : decode cX5_apart 18 = .ok (.invokevirtual 80, 3) := by decide +kernel
theorem dX5_apart_21 : decode cX5_apart 21 = .ok (.ireturn, 1) := by decide +kernel
set_option maxRecDepth 20000 in
theorem ggX5_town_X5_checkNode : GoodIn wsX5_town wsX5_checkNode := goodIn_ca (goodIn_r _ [7, 8, 9] (by decide +kernel) (by decide +kernel)) (goodIn_sub (fun _ h => List.mem_cons_of_mem _ (List.mem_append_right _ h)) (by decide +kernel))
set_option maxRecDepth 20000 in
theorem gX5_town_X5_checkNode : GoodIn wsX5_town (va_wsS RX5 77 yX5_checkNode wsX5_checkNode) := goodIn_app (goodIn_of _ (by decide +kernel)) ggX5_town_X5_checkNode
set_option maxRecDepth 20000 in
theorem ggX5_town_X3_hasTownAt : GoodIn wsX5_town wsX3_hasTownAt := goodIn_r _ [14, 15, 16, 35, 36, 37, 38, 39, 40, 41] (by decide +kernel) (by decide +kernel)
set_option maxRecDepth 20000 in
theorem gX5_town_X3_hasTownAt : GoodIn wsX5_town (wsV RX5 84 RX3 yX3_hasTownAt wsX3_hasTownAt) := goodIn_app (goodIn_of _ (by decide +kernel)) ggX5_town_X3_hasTownAt
set_option maxRecDepth 20000 in
theorem ggX5_town_X3_isFull : GoodIn wsX5_town wsX3_isFull := goodIn_r _ [20, 15, 35, 36, 37, 38, 39, 40, 41] (by decide +kernel) (by decide +kernel)
set_option maxRecDepth 20000 in
theorem gX5_town_X3_isFull : GoodIn wsX5_town (wsV RX5 88 RX3 yX3_isFull wsX3_isFull) := goodIn_app (goodIn_of _ (by decide +kernel)) ggX5_town_X3_isFull
set_option maxRecDepth 20000 in
theorem ggX5_town_X3_add : GoodIn wsX5_town wsX3_add := goodIn_r _ [24, 16, 15, 25, 26, 27, 13, 28, 29, 35, 36, 37, 38, 39, 40, 41] (by decide +kernel) (by decide +kernel)
set_option maxRecDepth 20000 in
theorem gX5_town_X3_add : GoodIn wsX5_town (wsV RX5 97 RX3 yX3_add wsX3_add) := goodIn_app (goodIn_of _ (by decide +kernel)) ggX5_town_X3_add
theorem dX5_town_0 : decode cX5_town 0 = .ok (.iload_n 1, 1) := by decide +kernel
theorem dX5_town_1 : decode cX5_town 1 = .ok (.invokestatic 77, 3) := by decide +kernel
theorem dX5_town_4 : decode cX5_town 4 = .ok (.aload_n 0, 1) := by decide +kernel
theorem dX5_town_5 : decode cX5_town 5 = .ok (.getfield 26, 3) := by decide +kernel
theorem dX5_town_8 : decode cX5_town 8 = .ok (.iload_n 1, 1) := by decide +kernel
theorem dX5_town_9 : decode cX5_town 9 = .ok (.invokevirtual 84, 3) := by decide +kernel
theorem dX5_town_12 : decode cX5_town 12 = .ok (.ifCond .ne 13, 3) := by decide +kernel
theorem dX5_town_15 : decode cX5_town 15 = .ok (.aload_n 0, 1) := by decide +kernel
theorem dX5_town_16 : decode cX5_town 16 = .ok (.getfield 26, 3) := by decide +kernel
theorem dX5_town_19 : decode cX5_town 19 = .ok (.invokevirtual 88, 3) := by decide +kernel
theorem dX5_town_22 : decode cX5_town 22 = .ok (.ifCond .eq 13, 3) := by decide +kernel
theorem dX5_town_25 : decode cX5_town 25 = .ok (.new 92, 3) := by decide +kernel
theorem dX5_town_28 : decode cX5_town 28 = .ok (.dup, 1) := by decide +kernel
theorem dX5_town_29 : decode cX5_town 29 = .ok (.ldc 94, 2) := by decide +kernel
theorem dX5_town_31 : decode cX5_town 31 = .ok (.invokespecial 96, 3) := by decide +kernel
theorem dX5_town_34 : decode cX5_town 34 = .ok (.athrow, 1) := by decide +kernel
theorem dX5_town_35 : decode cX5_town 35 = .ok (.aload_n 0, 1) := by decide +kernel
theorem dX5_town_36 : decode cX5_town 36 = .ok (.getfield 26, 3) := by decide +kernel
theorem dX5_town_39 : decode cX5_town 39 = .ok (.iload_n 1, 1) := by decide +kernel
theorem dX5_town_40 : decode cX5_town 40 = .ok (.invokevirtual 97, 3) := by decide +kernel
theorem dX5_town_43 : decode cX5_town 43 = .ok (.ireturn, 1) := by decide +kernel
set_option maxRecDepth 20000 in
theorem ggX5_away_X5_checkTown : GoodIn wsX5_away wsX5_checkTown := goodIn_ca (goodIn_r _ [6, 7, 8, 1, 9, 10, 11, 12, 13, 14, 25, 26, 27, 28, 29, 30, 31, 32, 33, 34, 35, 36] (by decide +kernel) (by decide +kernel)) (goodIn_sub (fun _ h => List.mem_cons_of_mem _ (List.mem_append_right _ h)) (by decide +kernel))
set_option maxRecDepth 20000 in
theorem gX5_away_X5_checkTown : GoodIn wsX5_away (wsV RX5 100 RX5 yX5_checkTown wsX5_checkTown) := goodIn_app (goodIn_of _ (by decide +kernel)) ggX5_away_X5_checkTown
set_option maxRecDepth 20000 in
theorem ggX5_away_X3_remove : GoodIn wsX5_away wsX3_remove := goodIn_r _ [18, 19, 14, 20, 21, 22, 12, 23, 24, 30, 31, 32, 33, 34, 35, 36] (by decide +kernel) (by decide +kernel)
set_option maxRecDepth 20000 in
theorem gX5_away_X3_remove : GoodIn wsX5_away (wsV RX5 103 RX3 yX3_remove wsX3_remove) := goodIn_app (goodIn_of _ (by decide +kernel)) ggX5_away_X3_remove
theorem dX5_away_0 : decode cX5_away 0 = .ok (.aload_n 0, 1) := by decide +kernel
theorem dX5_away_1 : decode cX5_away 1 = .ok (.iload_n 1, 1) := by decide +kernel
theorem dX5_away_2 : decode cX5_away 2 = .ok (.invokevirtual 100, 3) := by decide +kernel
theorem dX5_away_5 : decode cX5_away 5 = .ok (.aload_n 0, 1) := by decide +kernel
theorem dX5_away_6 : decode cX5_away 6 = .ok (.getfield 26, 3) := by decide +kernel
theorem dX5_away_9 : decode cX5_away 9 = .ok (.iload_n 1, 1) := by decide +kernel
theorem dX5_away_10 : decode cX5_away 10 = .ok (.invokevirtual 103, 3) := by decide +kernel
theorem dX5_away_13 : decode cX5_away 13 = .ok (.ireturn, 1) := by decide +kernel
set_option maxRecDepth 20000 in
theorem ggX5_townAt_X5_checkTown : GoodIn wsX5_townAt wsX5_checkTown := goodIn_ca (goodIn_r _ [6, 7, 8, 1, 9, 10, 11, 12, 13, 14, 20, 21, 22, 23, 24, 25, 26, 27, 28, 29, 30, 31] (by decide +kernel) (by decide +kernel)) (goodIn_sub (fun _ h => List.mem_cons_of_mem _ (List.mem_append_right _ h)) (by decide +kernel))
set_option maxRecDepth 20000 in
theorem gX5_townAt_X5_checkTown : GoodIn wsX5_townAt (wsV RX5 100 RX5 yX5_checkTown wsX5_checkTown) := goodIn_app (goodIn_of _ (by decide +kernel)) ggX5_townAt_X5_checkTown
set_option maxRecDepth 20000 in
theorem ggX5_townAt_X3_nodeOf : GoodIn wsX5_townAt wsX3_nodeOf := goodIn_r _ [18, 19, 25, 26, 27, 28, 29, 30, 31] (by decide +kernel) (by decide +kernel)
set_option maxRecDepth 20000 in
theorem gX5_townAt_X3_nodeOf : GoodIn wsX5_townAt (wsV RX5 106 RX3 yX3_nodeOf wsX3_nodeOf) := goodIn_app (goodIn_of _ (by decide +kernel)) ggX5_townAt_X3_nodeOf
theorem dX5_townAt_0 : decode cX5_townAt 0 = .ok (.aload_n 0, 1) := by decide +kernel
theorem dX5_townAt_1 : decode cX5_townAt 1 = .ok (.iload_n 1, 1) := by decide +kernel
theorem dX5_townAt_2 : decode cX5_townAt 2 = .ok (.invokevirtual 100, 3) := by decide +kernel
theorem dX5_townAt_5 : decode cX5_townAt 5 = .ok (.aload_n 0, 1) := by decide +kernel
theorem dX5_townAt_6 : decode cX5_townAt 6 = .ok (.getfield 26, 3) := by decide +kernel
theorem dX5_townAt_9 : decode cX5_townAt 9 = .ok (.iload_n 1, 1) := by decide +kernel
theorem dX5_townAt_10 : decode cX5_townAt 10 = .ok (.invokevirtual 106, 3) := by decide +kernel
theorem dX5_townAt_13 : decode cX5_townAt 13 = .ok (.ireturn, 1) := by decide +kernel
set_option maxRecDepth 20000 in
theorem ggX5_least_X3_cheapest : GoodIn wsX5_least wsX3_cheapest := goodIn_r _ [7, 8, 9, 10, 11, 12, 13, 6, 14, 15, 16, 17, 18, 19, 20, 21, 22, 23, 24, 25, 26, 27, 28, 29, 30, 31, 32, 33, 34, 35, 36, 37, 38, 39, 40, 41, 42, 43, 44, 45, 46, 47, 48, 49, 50, 51, 52, 53, 59, 60, 61, 62, 63, 64, 65, 66, 67, 68, 69, 70, 71, 72] (by decide +kernel) (by decide +kernel)
set_option maxRecDepth 20000 in
theorem gX5_least_X3_cheapest : GoodIn wsX5_least (wsV RX5 109 RX3 yX3_cheapest wsX3_cheapest) := goodIn_app (goodIn_of _ (by decide +kernel)) ggX5_least_X3_cheapest
theorem dX5_least_0 : decode cX5_least 0 = .ok (.aload_n 0, 1) := by decide +kernel
theorem dX5_least_1 : decode cX5_least 1 = .ok (.getfield 26, 3) := by decide +kernel
theorem dX5_least_4 : decode cX5_least 4 = .ok (.aload_n 0, 1) := by decide +kernel
theorem dX5_least_5 : decode cX5_least 5 = .ok (.getfield 10, 3) := by decide +kernel
theorem dX5_least_8 : decode cX5_least 8 = .ok (.invokevirtual 109, 3) := by decide +kernel
theorem dX5_least_11 : decode cX5_least 11 = .ok (.ireturn, 1) := by decide +kernel
set_option maxRecDepth 20000 in
theorem ggX5_leastAnew_X3_cheapestOfShapes : GoodIn wsX5_leastAnew wsX3_cheapestOfShapes := goodIn_r _ [7, 8, 9, 10, 11, 12, 13, 14, 15, 16, 17, 6, 18, 19, 20, 21, 22, 23, 24, 25, 26, 27, 28, 29, 30, 31, 32, 33, 34, 35, 36, 37, 38, 39, 40, 41, 47, 48, 49, 50, 51, 52, 53, 54, 55, 56, 57, 58, 59, 60] (by decide +kernel) (by decide +kernel)
set_option maxRecDepth 20000 in
theorem gX5_leastAnew_X3_cheapestOfShapes : GoodIn wsX5_leastAnew (wsV RX5 111 RX3 yX3_cheapestOfShapes wsX3_cheapestOfShapes) := goodIn_app (goodIn_of _ (by decide +kernel)) ggX5_leastAnew_X3_cheapestOfShapes
theorem dX5_leastAnew_0 : decode cX5_leastAnew 0 = .ok (.aload_n 0, 1) := by decide +kernel
theorem dX5_leastAnew_1 : decode cX5_leastAnew 1 = .ok (.getfield 26, 3) := by decide +kernel
theorem dX5_leastAnew_4 : decode cX5_leastAnew 4 = .ok (.aload_n 0, 1) := by decide +kernel
theorem dX5_leastAnew_5 : decode cX5_leastAnew 5 = .ok (.getfield 10, 3) := by decide +kernel
theorem dX5_leastAnew_8 : decode cX5_leastAnew 8 = .ok (.invokevirtual 111, 3) := by decide +kernel
theorem dX5_leastAnew_11 : decode cX5_leastAnew 11 = .ok (.ireturn, 1) := by decide +kernel
set_option maxRecDepth 20000 in
theorem ggX5_bound_X3_lowerBound : GoodIn wsX5_bound wsX3_lowerBound := goodIn_r _ [7, 8, 9, 10, 11, 12, 13, 14, 15, 6, 16, 17, 18, 19, 20, 21, 22, 23, 24, 25, 26, 27, 28, 29, 30, 31, 32, 33, 34, 35, 36, 37, 38, 39, 40, 41, 42, 43, 44, 45, 46, 47, 48, 49, 50, 51, 52, 53, 54, 55, 56, 57, 58, 59, 60, 61, 62, 68, 69, 70, 71, 72, 73, 74, 75, 76, 77, 78, 79, 80, 81] (by decide +kernel) (by decide +kernel)
set_option maxRecDepth 20000 in
theorem gX5_bound_X3_lowerBound : GoodIn wsX5_bound (wsV RX5 114 RX3 yX3_lowerBound wsX3_lowerBound) := goodIn_app (goodIn_of _ (by decide +kernel)) ggX5_bound_X3_lowerBound
theorem dX5_bound_0 : decode cX5_bound 0 = .ok (.aload_n 0, 1) := by decide +kernel
theorem dX5_bound_1 : decode cX5_bound 1 = .ok (.getfield 26, 3) := by decide +kernel
theorem dX5_bound_4 : decode cX5_bound 4 = .ok (.aload_n 0, 1) := by decide +kernel
theorem dX5_bound_5 : decode cX5_bound 5 = .ok (.getfield 10, 3) := by decide +kernel
theorem dX5_bound_8 : decode cX5_bound 8 = .ok (.invokevirtual 114, 3) := by decide +kernel
theorem dX5_bound_11 : decode cX5_bound 11 = .ok (.ireturn, 1) := by decide +kernel
set_option maxRecDepth 20000 in
theorem ggX5_gap_X3_cheapest : GoodIn wsX5_gap wsX3_cheapest := goodIn_r _ [7, 8, 9, 10, 11, 12, 13, 6, 14, 15, 16, 17, 18, 19, 20, 21, 22, 23, 24, 25, 26, 27, 28, 29, 30, 31, 32, 33, 34, 35, 36, 37, 38, 39, 40, 41, 42, 43, 44, 45, 46, 47, 48, 49, 50, 51, 52, 53, 95, 96, 97, 98, 99, 100, 101, 102, 103, 104, 105, 106, 107, 108] (by decide +kernel) (by decide +kernel)
set_option maxRecDepth 20000 in
theorem gX5_gap_X3_cheapest : GoodIn wsX5_gap (wsV RX5 109 RX3 yX3_cheapest wsX3_cheapest) := goodIn_app (goodIn_of _ (by decide +kernel)) ggX5_gap_X3_cheapest
set_option maxRecDepth 20000 in
theorem ggX5_gap_X3_lowerBound : GoodIn wsX5_gap wsX3_lowerBound := goodIn_r _ [57, 8, 58, 59, 51, 60, 61, 62, 63, 6, 64, 65, 10, 16, 17, 18, 19, 20, 21, 22, 23, 24, 25, 26, 27, 28, 29, 30, 31, 32, 66, 67, 68, 69, 70, 49, 50, 52, 71, 72, 73, 74, 75, 76, 77, 78, 79, 80, 81, 82, 83, 84, 85, 86, 87, 88, 89, 95, 96, 97, 98, 99, 100, 101, 102, 103, 104, 105, 106, 107, 108] (by decide +kernel) (by decide +kernel)
set_option maxRecDepth 20000 in
theorem gX5_gap_X3_lowerBound : GoodIn wsX5_gap (wsV RX5 114 RX3 yX3_lowerBound wsX3_lowerBound) := goodIn_app (goodIn_of _ (by decide +kernel)) ggX5_gap_X3_lowerBound
theorem dX5_gap_0 : decode cX5_gap 0 = .ok (.aload_n 0, 1) := by decide +kernel
theorem dX5_gap_1 : decode cX5_gap 1 = .ok (.getfield 26, 3) := by decide +kernel
theorem dX5_gap_4 : decode cX5_gap 4 = .ok (.aload_n 0, 1) := by decide +kernel
theorem dX5_gap_5 : decode cX5_gap 5 = .ok (.getfield 10, 3) := by decide +kernel
theorem dX5_gap_8 : decode cX5_gap 8 = .ok (.invokevirtual 109, 3) := by decide +kernel
theorem dX5_gap_11 : decode cX5_gap 11 = .ok (.aload_n 0, 1) := by decide +kernel
theorem dX5_gap_12 : decode cX5_gap 12 = .ok (.getfield 26, 3) := by decide +kernel
theorem dX5_gap_15 : decode cX5_gap 15 = .ok (.aload_n 0, 1) := by decide +kernel
theorem dX5_gap_16 : decode cX5_gap 16 = .ok (.getfield 10, 3) := by decide +kernel
theorem dX5_gap_19 : decode cX5_gap 19 = .ok (.invokevirtual 114, 3) := by decide +kernel
theorem dX5_gap_22 : decode cX5_gap 22 = .ok (.isub, 1) := by decide +kernel
theorem dX5_gap_23 : decode cX5_gap 23 = .ok (.ireturn, 1) := by decide +kernel
set_option maxRecDepth 20000 in
theorem ggX5_isUsed_X5_checkEdge : GoodIn wsX5_isUsed wsX5_checkEdge := goodIn_ca (goodIn_r _ [6, 7, 8] (by decide +kernel) (by decide +kernel)) (goodIn_sub (fun _ h => List.mem_cons_of_mem _ (List.mem_append_right _ h)) (by decide +kernel))
set_option maxRecDepth 20000 in
theorem gX5_isUsed_X5_checkEdge : GoodIn wsX5_isUsed (va_wsS RX5 65 yX5_checkEdge wsX5_checkEdge) := goodIn_app (goodIn_of _ (by decide +kernel)) ggX5_isUsed_X5_checkEdge
set_option maxRecDepth 20000 in
theorem ggX5_isUsed_X3_isInCheapest : GoodIn wsX5_isUsed wsX3_isInCheapest := goodIn_r _ [13, 14, 15, 16, 17, 18, 19, 12, 20, 21, 22, 23, 24, 25, 26, 27, 28, 29, 30, 31, 32, 33, 34, 35, 36, 37, 38, 39, 40, 41, 42, 43, 44, 45, 46, 47, 48, 49, 50, 51, 52, 53, 54, 55, 56, 57, 58, 59, 60, 61, 62, 63, 64, 65, 66, 67, 68, 69, 70, 71, 77, 78, 79, 80, 81, 82, 83, 84, 85, 86, 87, 88, 89, 90] (by decide +kernel) (by decide +kernel)
set_option maxRecDepth 20000 in
theorem gX5_isUsed_X3_isInCheapest : GoodIn wsX5_isUsed (wsV RX5 117 RX3 yX3_isInCheapest wsX3_isInCheapest) := goodIn_app (goodIn_of _ (by decide +kernel)) ggX5_isUsed_X3_isInCheapest
theorem dX5_isUsed_0 : decode cX5_isUsed 0 = .ok (.iload_n 1, 1) := by decide +kernel
theorem dX5_isUsed_1 : decode cX5_isUsed 1 = .ok (.invokestatic 65, 3) := by decide +kernel
theorem dX5_isUsed_4 : decode cX5_isUsed 4 = .ok (.aload_n 0, 1) := by decide +kernel
theorem dX5_isUsed_5 : decode cX5_isUsed 5 = .ok (.getfield 26, 3) := by decide +kernel
theorem dX5_isUsed_8 : decode cX5_isUsed 8 = .ok (.aload_n 0, 1) := by decide +kernel
theorem dX5_isUsed_9 : decode cX5_isUsed 9 = .ok (.getfield 10, 3) := by decide +kernel
theorem dX5_isUsed_12 : decode cX5_isUsed 12 = .ok (.iload_n 1, 1) := by decide +kernel
theorem dX5_isUsed_13 : decode cX5_isUsed 13 = .ok (.invokevirtual 117, 3) := by decide +kernel
theorem dX5_isUsed_16 : decode cX5_isUsed 16 = .ok (.ireturn, 1) := by decide +kernel
set_option maxRecDepth 20000 in
theorem ggX5_twoWays_X5_checkNode : GoodIn wsX5_twoWays wsX5_checkNode := goodIn_ca (goodIn_r _ [8, 9, 10] (by decide +kernel) (by decide +kernel)) (goodIn_sub (fun _ h => List.mem_cons_of_mem _ (List.mem_append_right _ h)) (by decide +kernel))
set_option maxRecDepth 20000 in
theorem gX5_twoWays_X5_checkNode : GoodIn wsX5_twoWays (va_wsS RX5 77 yX5_checkNode wsX5_checkNode) := goodIn_app (goodIn_of _ (by decide +kernel)) ggX5_twoWays_X5_checkNode
set_option maxRecDepth 20000 in
theorem ggX5_twoWays_X4_cheapestPair : GoodIn wsX5_twoWays wsX4_cheapestPair := goodIn_r _ [15, 16, 17, 18, 19, 14, 20, 21, 22, 23, 24, 25, 26, 27, 28, 29, 30, 31, 32, 33, 34, 35, 36, 37, 38, 39, 40, 41, 42, 43, 44, 45, 46, 47, 48, 49, 50, 51, 52, 53, 54, 55, 56, 57, 58, 59, 60, 61, 62, 63, 64, 65, 66, 67, 68, 69, 70, 71, 72, 73, 74, 75, 76, 82, 83, 84, 85, 86, 87, 88, 89, 90] (by decide +kernel) (by decide +kernel)
set_option maxRecDepth 20000 in
theorem gX5_twoWays_X4_cheapestPair : GoodIn wsX5_twoWays (wsV RX5 123 RX4 yX4_cheapestPair wsX4_cheapestPair) := goodIn_app (goodIn_of _ (by decide +kernel)) ggX5_twoWays_X4_cheapestPair
theorem dX5_twoWays_0 : decode cX5_twoWays 0 = .ok (.iload_n 1, 1) := by decide +kernel
theorem dX5_twoWays_1 : decode cX5_twoWays 1 = .ok (.invokestatic 77, 3) := by decide +kernel
theorem dX5_twoWays_4 : decode cX5_twoWays 4 = .ok (.iload_n 2, 1) := by decide +kernel
theorem dX5_twoWays_5 : decode cX5_twoWays 5 = .ok (.invokestatic 77, 3) := by decide +kernel
theorem dX5_twoWays_8 : decode cX5_twoWays 8 = .ok (.iload_n 1, 1) := by decide +kernel
theorem dX5_twoWays_9 : decode cX5_twoWays 9 = .ok (.iload_n 2, 1) := by decide +kernel
theorem dX5_twoWays_10 : decode cX5_twoWays 10 = .ok (.if_icmp .ne 13, 3) := by decide +kernel
theorem dX5_twoWays_13 : decode cX5_twoWays 13 = .ok (.new 44, 3) := by decide +kernel
theorem dX5_twoWays_16 : decode cX5_twoWays 16 = .ok (.dup, 1) := by decide +kernel
theorem dX5_twoWays_17 : decode cX5_twoWays 17 = .ok (.ldc 121, 2) := by decide +kernel
theorem dX5_twoWays_19 : decode cX5_twoWays 19 = .ok (.invokespecial 48, 3) := by decide +kernel
theorem dX5_twoWays_22 : decode cX5_twoWays 22 = .ok (.athrow, 1) := by decide +kernel
theorem dX5_twoWays_23 : decode cX5_twoWays 23 = .ok (.aload_n 0, 1) := by decide +kernel
theorem dX5_twoWays_24 : decode cX5_twoWays 24 = .ok (.getfield 19, 3) := by decide +kernel
theorem dX5_twoWays_27 : decode cX5_twoWays 27 = .ok (.aload_n 0, 1) := by decide +kernel
theorem dX5_twoWays_28 : decode cX5_twoWays 28 = .ok (.getfield 10, 3) := by decide +kernel
theorem dX5_twoWays_31 : decode cX5_twoWays 31 = .ok (.iload_n 1, 1) := by decide +kernel
theorem dX5_twoWays_32 : decode cX5_twoWays 32 = .ok (.iload_n 2, 1) := by decide +kernel
theorem dX5_twoWays_33 : decode cX5_twoWays 33 = .ok (.invokevirtual 123, 3) := by decide +kernel
theorem dX5_twoWays_36 : decode cX5_twoWays 36 = .ok (.ireturn, 1) := by decide +kernel
set_option maxRecDepth 20000 in
theorem ggX5_pin_X5_checkNode : GoodIn wsX5_pin wsX5_checkNode := goodIn_ca (goodIn_r _ [7, 8, 9] (by decide +kernel) (by decide +kernel)) (goodIn_sub (fun _ h => List.mem_cons_of_mem _ (List.mem_append_right _ h)) (by decide +kernel))
set_option maxRecDepth 20000 in
theorem gX5_pin_X5_checkNode : GoodIn wsX5_pin (va_wsS RX5 77 yX5_checkNode wsX5_checkNode) := goodIn_app (goodIn_of _ (by decide +kernel)) ggX5_pin_X5_checkNode
set_option maxRecDepth 20000 in
theorem ggX5_pin_X0_change : GoodIn wsX5_pin wsX0_change := goodIn_r _ [14, 15, 21, 22, 23, 24] (by decide +kernel) (by decide +kernel)
set_option maxRecDepth 20000 in
theorem gX5_pin_X0_change : GoodIn wsX5_pin (wsV RX5 128 RX0 yX0_change wsX0_change) := goodIn_app (goodIn_of _ (by decide +kernel)) ggX5_pin_X0_change
theorem dX5_pin_0 : decode cX5_pin 0 = .ok (.iload_n 1, 1) := by decide +kernel
theorem dX5_pin_1 : decode cX5_pin 1 = .ok (.invokestatic 77, 3) := by decide +kernel
theorem dX5_pin_4 : decode cX5_pin 4 = .ok (.iload_n 2, 1) := by decide +kernel
theorem dX5_pin_5 : decode cX5_pin 5 = .ok (.ifCond .lt 8, 3) := by decide +kernel
theorem dX5_pin_8 : decode cX5_pin 8 = .ok (.iload_n 2, 1) := by decide +kernel
theorem dX5_pin_9 : decode cX5_pin 9 = .ok (.iconst 2, 1) := by decide +kernel
theorem dX5_pin_10 : decode cX5_pin 10 = .ok (.if_icmp .le 13, 3) := by decide +kernel
theorem dX5_pin_13 : decode cX5_pin 13 = .ok (.new 44, 3) := by decide +kernel
theorem dX5_pin_16 : decode cX5_pin 16 = .ok (.dup, 1) := by decide +kernel
theorem dX5_pin_17 : decode cX5_pin 17 = .ok (.ldc 126, 2) := by decide +kernel
theorem dX5_pin_19 : decode cX5_pin 19 = .ok (.invokespecial 48, 3) := by decide +kernel
theorem dX5_pin_22 : decode cX5_pin 22 = .ok (.athrow, 1) := by decide +kernel
theorem dX5_pin_23 : decode cX5_pin 23 = .ok (.aload_n 0, 1) := by decide +kernel
theorem dX5_pin_24 : decode cX5_pin 24 = .ok (.getfield 33, 3) := by decide +kernel
theorem dX5_pin_27 : decode cX5_pin 27 = .ok (.iload_n 1, 1) := by decide +kernel
theorem dX5_pin_28 : decode cX5_pin 28 = .ok (.iload_n 2, 1) := by decide +kernel
theorem dX5_pin_29 : decode cX5_pin 29 = .ok (.invokevirtual 128, 3) := by decide +kernel
theorem dX5_pin_32 : decode cX5_pin 32 = .ok (.ireturn, 1) := by decide +kernel
set_option maxRecDepth 20000 in
theorem ggX5_film_X0_smallest : GoodIn wsX5_film wsX0_smallest := goodIn_r _ [7, 8, 9, 10, 6, 11, 12, 13, 14, 15, 16, 17, 18, 19, 20, 21, 22, 23, 24, 25, 26, 27, 28, 29, 30, 31, 32, 33, 34, 35, 36, 37, 38, 39, 40, 41, 42, 43, 44, 45, 46, 47, 48, 49, 50, 51, 52, 53, 54, 55, 56, 57, 58, 59, 60, 61, 62, 63, 64, 65, 66, 67, 68, 69, 86, 87, 88, 89, 90, 91, 92, 93, 94, 95, 96] (by decide +kernel) (by decide +kernel)
set_option maxRecDepth 20000 in
theorem gX5_film_X0_smallest : GoodIn wsX5_film (wsV RX5 131 RX0 yX0_smallest wsX0_smallest) := goodIn_app (goodIn_of _ (by decide +kernel)) ggX5_film_X0_smallest
set_option maxRecDepth 20000 in
theorem ggX5_film_X0_priceOf : GoodIn wsX5_film wsX0_priceOf := goodIn_r _ [73, 45, 46, 47, 27, 48, 34, 74, 75, 6, 76, 77, 78, 79, 80, 35, 40, 41, 42, 43, 44, 90, 91, 92, 93, 94, 95, 96] (by decide +kernel) (by decide +kernel)
set_option maxRecDepth 20000 in
theorem gX5_film_X0_priceOf : GoodIn wsX5_film (wsV RX5 135 RX0 yX0_priceOf wsX0_priceOf) := goodIn_app (goodIn_of _ (by decide +kernel)) ggX5_film_X0_priceOf
theorem dX5_film_0 : decode cX5_film 0 = .ok (.aload_n 0, 1) := by decide +kernel
theorem dX5_film_1 : decode cX5_film 1 = .ok (.getfield 33, 3) := by decide +kernel
theorem dX5_film_4 : decode cX5_film 4 = .ok (.aload_n 0, 1) := by decide +kernel
theorem dX5_film_5 : decode cX5_film 5 = .ok (.getfield 10, 3) := by decide +kernel
theorem dX5_film_8 : decode cX5_film 8 = .ok (.aload_n 0, 1) := by decide +kernel
theorem dX5_film_9 : decode cX5_film 9 = .ok (.getfield 33, 3) := by decide +kernel
theorem dX5_film_12 : decode cX5_film 12 = .ok (.aload_n 0, 1) := by decide +kernel
theorem dX5_film_13 : decode cX5_film 13 = .ok (.getfield 10, 3) := by decide +kernel
theorem dX5_film_16 : decode cX5_film 16 = .ok (.invokevirtual 131, 3) := by decide +kernel
theorem dX5_film_19 : decode cX5_film 19 = .ok (.invokevirtual 135, 3) := by decide +kernel
theorem dX5_film_22 : decode cX5_film 22 = .ok (.ireturn, 1) := by decide +kernel
set_option maxRecDepth 20000 in
theorem ggX5_proof_X0_proved : GoodIn wsX5_proof wsX0_proved := goodIn_r _ [7, 8, 9, 10, 11, 12, 6, 13, 14, 15, 16, 17, 18, 19, 20, 21, 22, 23, 24, 25, 26, 27, 28, 29, 30, 31, 32, 33, 34, 35, 36, 37, 38, 39, 40, 41, 42, 43, 44, 45, 46, 47, 48, 49, 50, 51, 52, 53, 54, 55, 56, 57, 58, 59, 60, 61, 62, 63, 64, 65, 66, 67, 68, 69, 75, 76, 77, 78, 79, 80, 81, 82, 83, 84, 85] (by decide +kernel) (by decide +kernel)
set_option maxRecDepth 20000 in
theorem gX5_proof_X0_proved : GoodIn wsX5_proof (wsV RX5 139 RX0 yX0_proved wsX0_proved) := goodIn_app (goodIn_of _ (by decide +kernel)) ggX5_proof_X0_proved
theorem dX5_proof_0 : decode cX5_proof 0 = .ok (.aload_n 0, 1) := by decide +kernel
theorem dX5_proof_1 : decode cX5_proof 1 = .ok (.getfield 33, 3) := by decide +kernel
theorem dX5_proof_4 : decode cX5_proof 4 = .ok (.aload_n 0, 1) := by decide +kernel
theorem dX5_proof_5 : decode cX5_proof 5 = .ok (.getfield 10, 3) := by decide +kernel
theorem dX5_proof_8 : decode cX5_proof 8 = .ok (.invokevirtual 139, 3) := by decide +kernel
theorem dX5_proof_11 : decode cX5_proof 11 = .ok (.ireturn, 1) := by decide +kernel
set_option maxRecDepth 20000 in
theorem ggX5_side_X0_greatest : GoodIn wsX5_side wsX0_greatest := goodIn_r _ [7, 8, 9, 10, 11, 12, 6, 13, 14, 15, 16, 17, 18, 19, 20, 21, 22, 23, 24, 25, 26, 27, 28, 29, 30, 31, 32, 33, 34, 35, 36, 37, 38, 39, 40, 41, 42, 43, 44, 45, 46, 47, 48, 49, 50, 51, 52, 53, 54, 55, 56, 57, 58, 59, 60, 61, 62, 63, 64, 65, 66, 67, 68, 69, 70, 71, 81, 82, 83, 84, 85, 86, 87, 88, 89, 90, 91] (by decide +kernel) (by decide +kernel)
set_option maxRecDepth 20000 in
theorem gX5_side_X0_greatest : GoodIn wsX5_side (wsV RX5 142 RX0 yX0_greatest wsX0_greatest) := goodIn_app (goodIn_of _ (by decide +kernel)) ggX5_side_X0_greatest
set_option maxRecDepth 20000 in
theorem ggX5_side_X0_smallest : GoodIn wsX5_side wsX0_smallest := goodIn_r _ [75, 10, 11, 12, 6, 13, 14, 15, 16, 17, 18, 19, 20, 21, 22, 23, 24, 25, 26, 27, 28, 29, 30, 31, 32, 33, 34, 35, 36, 37, 38, 39, 40, 41, 42, 43, 44, 45, 46, 47, 48, 49, 50, 51, 52, 53, 54, 55, 56, 57, 58, 59, 60, 61, 62, 63, 64, 65, 66, 67, 68, 69, 70, 71, 81, 82, 83, 84, 85, 86, 87, 88, 89, 90, 91] (by decide +kernel) (by decide +kernel)
set_option maxRecDepth 20000 in
theorem gX5_side_X0_smallest : GoodIn wsX5_side (wsV RX5 131 RX0 yX0_smallest wsX0_smallest) := goodIn_app (goodIn_of _ (by decide +kernel)) ggX5_side_X0_smallest
theorem dX5_side_0 : decode cX5_side 0 = .ok (.iload_n 1, 1) := by decide +kernel
theorem dX5_side_1 : decode cX5_side 1 = .ok (.ifCond .eq 17, 3) := by decide +kernel
theorem dX5_side_4 : decode cX5_side 4 = .ok (.aload_n 0, 1) := by decide +kernel
theorem dX5_side_5 : decode cX5_side 5 = .ok (.getfield 33, 3) := by decide +kernel
theorem dX5_side_8 : decode cX5_side 8 = .ok (.aload_n 0, 1) := by decide +kernel
theorem dX5_side_9 : decode cX5_side 9 = .ok (.getfield 10, 3) := by decide +kernel
theorem dX5_side_12 : decode cX5_side 12 = .ok (.invokevirtual 142, 3) := by decide +kernel
theorem dX5_side_15 : decode cX5_side 15 = .ok (.goto 14, 3) := by decide +kernel
theorem dX5_side_18 : decode cX5_side 18 = .ok (.aload_n 0, 1) := by decide +kernel
theorem dX5_side_19 : decode cX5_side 19 = .ok (.getfield 33, 3) := by decide +kernel
theorem dX5_side_22 : decode cX5_side 22 = .ok (.aload_n 0, 1) := by decide +kernel
theorem dX5_side_23 : decode cX5_side 23 = .ok (.getfield 10, 3) := by decide +kernel
theorem dX5_side_26 : decode cX5_side 26 = .ok (.invokevirtual 131, 3) := by decide +kernel
theorem dX5_side_29 : decode cX5_side 29 = .ok (.lreturn, 1) := by decide +kernel
set_option maxRecDepth 20000 in
theorem ggX5_costOf_X0_isFilm : GoodIn wsX5_costOf wsX0_isFilm := goodIn_r _ [9, 10, 11, 12, 8, 13, 39, 40, 41, 42] (by decide +kernel) (by decide +kernel)
set_option maxRecDepth 20000 in
theorem gX5_costOf_X0_isFilm : GoodIn wsX5_costOf (wsV RX5 147 RX0 yX0_isFilm wsX0_isFilm) := goodIn_app (goodIn_of _ (by decide +kernel)) ggX5_costOf_X0_isFilm
set_option maxRecDepth 20000 in
theorem ggX5_costOf_X0_priceOf : GoodIn wsX5_costOf wsX0_priceOf := goodIn_r _ [17, 18, 19, 20, 21, 22, 23, 11, 12, 8, 13, 24, 25, 26, 27, 28, 29, 30, 31, 32, 33, 43, 44, 45, 46, 47, 48, 49] (by decide +kernel) (by decide +kernel)
set_option maxRecDepth 20000 in
theorem gX5_costOf_X0_priceOf : GoodIn wsX5_costOf (wsV RX5 135 RX0 yX0_priceOf wsX0_priceOf) := goodIn_app (goodIn_of _ (by decide +kernel)) ggX5_costOf_X0_priceOf
theorem dX5_costOf_0 : decode cX5_costOf 0 = .ok (.lload_n 1, 1) := by decide +kernel
theorem dX5_costOf_1 : decode cX5_costOf 1 = .ok (.bipush 36, 2) := by decide +kernel
theorem dX5_costOf_3 : decode cX5_costOf 3 = .ok (.lushr, 1) := by decide +kernel
theorem dX5_costOf_4 : decode cX5_costOf 4 = .ok (.lconst 0, 1) := by decide +kernel
theorem dX5_costOf_5 : decode cX5_costOf 5 = .ok (.lcmp, 1) := by decide +kernel
theorem dX5_costOf_6 : decode cX5_costOf 6 = .ok (.ifCond .eq 13, 3) := by decide +kernel
theorem dX5_costOf_9 : decode cX5_costOf 9 = .ok (.new 44, 3) := by decide +kernel
theorem dX5_costOf_12 : decode cX5_costOf 12 = .ok (.dup, 1) := by decide +kernel
theorem dX5_costOf_13 : decode cX5_costOf 13 = .ok (.ldc 145, 2) := by decide +kernel
theorem dX5_costOf_15 : decode cX5_costOf 15 = .ok (.invokespecial 48, 3) := by decide +kernel
theorem dX5_costOf_18 : decode cX5_costOf 18 = .ok (.athrow, 1) := by decide +kernel
theorem dX5_costOf_19 : decode cX5_costOf 19 = .ok (.aload_n 0, 1) := by decide +kernel
theorem dX5_costOf_20 : decode cX5_costOf 20 = .ok (.getfield 33, 3) := by decide +kernel
theorem dX5_costOf_23 : decode cX5_costOf 23 = .ok (.lload_n 1, 1) := by decide +kernel
theorem dX5_costOf_24 : decode cX5_costOf 24 = .ok (.invokevirtual 147, 3) := by decide +kernel
theorem dX5_costOf_27 : decode cX5_costOf 27 = .ok (.ifCond .eq 18, 3) := by decide +kernel
theorem dX5_costOf_30 : decode cX5_costOf 30 = .ok (.aload_n 0, 1) := by decide +kernel
theorem dX5_costOf_31 : decode cX5_costOf 31 = .ok (.getfield 33, 3) := by decide +kernel
theorem dX5_costOf_34 : decode cX5_costOf 34 = .ok (.aload_n 0, 1) := by decide +kernel
theorem dX5_costOf_35 : decode cX5_costOf 35 = .ok (.getfield 10, 3) := by decide +kernel
theorem dX5_costOf_38 : decode cX5_costOf 38 = .ok (.lload_n 1, 1) := by decide +kernel
theorem dX5_costOf_39 : decode cX5_costOf 39 = .ok (.invokevirtual 135, 3) := by decide +kernel
theorem dX5_costOf_42 : decode cX5_costOf 42 = .ok (.goto 4, 3) := by decide +kernel
theorem dX5_costOf_45 : decode cX5_costOf 45 = .ok (.iconst (-1), 1) := by decide +kernel
theorem dX5_costOf_46 : decode cX5_costOf 46 = .ok (.ireturn, 1) := by decide +kernel
set_option maxRecDepth 20000 in
theorem ggX5_pull_X5_checkNode : GoodIn wsX5_pull wsX5_checkNode := goodIn_ca (goodIn_r _ [6, 7, 8] (by decide +kernel) (by decide +kernel)) (goodIn_sub (fun _ h => List.mem_cons_of_mem _ (List.mem_append_right _ h)) (by decide +kernel))
set_option maxRecDepth 20000 in
theorem gX5_pull_X5_checkNode : GoodIn wsX5_pull (va_wsS RX5 77 yX5_checkNode wsX5_checkNode) := goodIn_app (goodIn_of _ (by decide +kernel)) ggX5_pull_X5_checkNode
set_option maxRecDepth 20000 in
theorem ggX5_pull_X5_checkBubble : GoodIn wsX5_pull wsX5_checkBubble := goodIn_ca (goodIn_r _ [11, 7, 8] (by decide +kernel) (by decide +kernel)) (goodIn_sub (fun _ h => List.mem_cons_of_mem _ (List.mem_append_right _ h)) (by decide +kernel))
set_option maxRecDepth 20000 in
theorem gX5_pull_X5_checkBubble : GoodIn wsX5_pull (va_wsS RX5 151 yX5_checkBubble wsX5_checkBubble) := goodIn_app (goodIn_of _ (by decide +kernel)) ggX5_pull_X5_checkBubble
set_option maxRecDepth 20000 in
theorem ggX5_pull_X1_change : GoodIn wsX5_pull wsX1_change := goodIn_r _ [16, 17, 18, 19, 20, 15, 21, 22, 23, 24, 25, 26, 27, 28, 29, 30, 31, 32, 33, 34, 35, 36, 37, 38, 39, 40, 41, 42, 43, 44, 45, 51, 52, 53, 54, 55, 56, 57, 58, 59, 60, 61, 62, 63, 64] (by decide +kernel) (by decide +kernel)
set_option maxRecDepth 20000 in
theorem gX5_pull_X1_change : GoodIn wsX5_pull (wsV RX5 154 RX1 yX1_change wsX1_change) := goodIn_app (goodIn_of _ (by decide +kernel)) ggX5_pull_X1_change
theorem dX5_pull_0 : decode cX5_pull 0 = .ok (.iload_n 1, 1) := by decide +kernel
theorem dX5_pull_1 : decode cX5_pull 1 = .ok (.invokestatic 77, 3) := by decide +kernel
theorem dX5_pull_4 : decode cX5_pull 4 = .ok (.iload_n 2, 1) := by decide +kernel
theorem dX5_pull_5 : decode cX5_pull 5 = .ok (.invokestatic 151, 3) := by decide +kernel
theorem dX5_pull_8 : decode cX5_pull 8 = .ok (.aload_n 0, 1) := by decide +kernel
theorem dX5_pull_9 : decode cX5_pull 9 = .ok (.getfield 40, 3) := by decide +kernel
theorem dX5_pull_12 : decode cX5_pull 12 = .ok (.aload_n 0, 1) := by decide +kernel
theorem dX5_pull_13 : decode cX5_pull 13 = .ok (.getfield 10, 3) := by decide +kernel
theorem dX5_pull_16 : decode cX5_pull 16 = .ok (.iload_n 1, 1) := by decide +kernel
theorem dX5_pull_17 : decode cX5_pull 17 = .ok (.iload_n 2, 1) := by decide +kernel
theorem dX5_pull_18 : decode cX5_pull 18 = .ok (.invokevirtual 154, 3) := by decide +kernel
theorem dX5_pull_21 : decode cX5_pull 21 = .ok (.ireturn, 1) := by decide +kernel
set_option maxRecDepth 20000 in
theorem ggX5_hold_X5_checkBubble : GoodIn wsX5_hold wsX5_checkBubble := goodIn_ca (goodIn_r _ [5, 6, 7] (by decide +kernel) (by decide +kernel)) (goodIn_sub (fun _ h => List.mem_cons_of_mem _ (List.mem_append_right _ h)) (by decide +kernel))
set_option maxRecDepth 20000 in
theorem gX5_hold_X5_checkBubble : GoodIn wsX5_hold (va_wsS RX5 151 yX5_checkBubble wsX5_checkBubble) := goodIn_app (goodIn_of _ (by decide +kernel)) ggX5_hold_X5_checkBubble
set_option maxRecDepth 20000 in
theorem ggX5_hold_X1_changeHeld : GoodIn wsX5_hold wsX1_changeHeld := goodIn_r _ [12, 13, 19, 20, 21, 22, 23, 24, 25] (by decide +kernel) (by decide +kernel)
set_option maxRecDepth 20000 in
theorem gX5_hold_X1_changeHeld : GoodIn wsX5_hold (wsV RX5 156 RX1 yX1_changeHeld wsX1_changeHeld) := goodIn_app (goodIn_of _ (by decide +kernel)) ggX5_hold_X1_changeHeld
theorem dX5_hold_0 : decode cX5_hold 0 = .ok (.iload_n 1, 1) := by decide +kernel
theorem dX5_hold_1 : decode cX5_hold 1 = .ok (.invokestatic 151, 3) := by decide +kernel
theorem dX5_hold_4 : decode cX5_hold 4 = .ok (.aload_n 0, 1) := by decide +kernel
theorem dX5_hold_5 : decode cX5_hold 5 = .ok (.getfield 40, 3) := by decide +kernel
theorem dX5_hold_8 : decode cX5_hold 8 = .ok (.iload_n 1, 1) := by decide +kernel
theorem dX5_hold_9 : decode cX5_hold 9 = .ok (.iload_n 2, 1) := by decide +kernel
theorem dX5_hold_10 : decode cX5_hold 10 = .ok (.invokevirtual 156, 3) := by decide +kernel
theorem dX5_hold_13 : decode cX5_hold 13 = .ok (.ireturn, 1) := by decide +kernel
set_option maxRecDepth 20000 in
theorem ggX5_breathe_X1_letBreathe : GoodIn wsX5_breathe wsX1_letBreathe := goodIn_r _ [9, 10, 11, 12, 13, 14, 8, 15, 16, 17, 18, 19, 20, 21, 22, 23, 24, 25, 26, 27, 28, 29, 30, 31, 32, 33, 34, 35, 36, 37, 38, 39, 40, 41, 42, 43, 44, 45, 46, 47, 48, 49, 50, 51, 52, 53, 54, 55, 61, 62, 63, 64, 65, 66, 67, 68, 69, 70, 71, 72, 73, 74] (by decide +kernel) (by decide +kernel)
set_option maxRecDepth 20000 in
theorem gX5_breathe_X1_letBreathe : GoodIn wsX5_breathe (wsV RX5 162 RX1 yX1_letBreathe wsX1_letBreathe) := goodIn_app (goodIn_of _ (by decide +kernel)) ggX5_breathe_X1_letBreathe
theorem dX5_breathe_0 : decode cX5_breathe 0 = .ok (.iload_n 1, 1) := by decide +kernel
theorem dX5_breathe_1 : decode cX5_breathe 1 = .ok (.iconst 1, 1) := by decide +kernel
theorem dX5_breathe_2 : decode cX5_breathe 2 = .ok (.if_icmp .lt 9, 3) := by decide +kernel
theorem dX5_breathe_5 : decode cX5_breathe 5 = .ok (.iload_n 1, 1) := by decide +kernel
theorem dX5_breathe_6 : decode cX5_breathe 6 = .ok (.bipush 100, 2) := by decide +kernel
theorem dX5_breathe_8 : decode cX5_breathe 8 = .ok (.if_icmp .le 13, 3) := by decide +kernel
theorem dX5_breathe_11 : decode cX5_breathe 11 = .ok (.new 44, 3) := by decide +kernel
theorem dX5_breathe_14 : decode cX5_breathe 14 = .ok (.dup, 1) := by decide +kernel
theorem dX5_breathe_15 : decode cX5_breathe 15 = .ok (.ldc 160, 2) := by decide +kernel
theorem dX5_breathe_17 : decode cX5_breathe 17 = .ok (.invokespecial 48, 3) := by decide +kernel
theorem dX5_breathe_20 : decode cX5_breathe 20 = .ok (.athrow, 1) := by decide +kernel
theorem dX5_breathe_21 : decode cX5_breathe 21 = .ok (.aload_n 0, 1) := by decide +kernel
theorem dX5_breathe_22 : decode cX5_breathe 22 = .ok (.getfield 40, 3) := by decide +kernel
theorem dX5_breathe_25 : decode cX5_breathe 25 = .ok (.aload_n 0, 1) := by decide +kernel
theorem dX5_breathe_26 : decode cX5_breathe 26 = .ok (.getfield 10, 3) := by decide +kernel
theorem dX5_breathe_29 : decode cX5_breathe 29 = .ok (.iload_n 1, 1) := by decide +kernel
theorem dX5_breathe_30 : decode cX5_breathe 30 = .ok (.invokevirtual 162, 3) := by decide +kernel
theorem dX5_breathe_33 : decode cX5_breathe 33 = .ok (.ireturn, 1) := by decide +kernel
set_option maxRecDepth 20000 in
theorem ggX5_bubbleAt_X5_checkNode : GoodIn wsX5_bubbleAt wsX5_checkNode := goodIn_ca (goodIn_r _ [5, 6, 7] (by decide +kernel) (by decide +kernel)) (goodIn_sub (fun _ h => List.mem_cons_of_mem _ (List.mem_append_right _ h)) (by decide +kernel))
set_option maxRecDepth 20000 in
theorem gX5_bubbleAt_X5_checkNode : GoodIn wsX5_bubbleAt (va_wsS RX5 77 yX5_checkNode wsX5_checkNode) := goodIn_app (goodIn_of _ (by decide +kernel)) ggX5_bubbleAt_X5_checkNode
set_option maxRecDepth 20000 in
theorem ggX5_bubbleAt_X1_ownerOf : GoodIn wsX5_bubbleAt wsX1_ownerOf := goodIn_r _ [12, 13, 19, 20, 21, 22, 23, 24, 25] (by decide +kernel) (by decide +kernel)
set_option maxRecDepth 20000 in
theorem gX5_bubbleAt_X1_ownerOf : GoodIn wsX5_bubbleAt (wsV RX5 166 RX1 yX1_ownerOf wsX1_ownerOf) := goodIn_app (goodIn_of _ (by decide +kernel)) ggX5_bubbleAt_X1_ownerOf
theorem dX5_bubbleAt_0 : decode cX5_bubbleAt 0 = .ok (.iload_n 1, 1) := by decide +kernel
theorem dX5_bubbleAt_1 : decode cX5_bubbleAt 1 = .ok (.invokestatic 77, 3) := by decide +kernel
theorem dX5_bubbleAt_4 : decode cX5_bubbleAt 4 = .ok (.aload_n 0, 1) := by decide +kernel
theorem dX5_bubbleAt_5 : decode cX5_bubbleAt 5 = .ok (.getfield 40, 3) := by decide +kernel
theorem dX5_bubbleAt_8 : decode cX5_bubbleAt 8 = .ok (.iload_n 1, 1) := by decide +kernel
theorem dX5_bubbleAt_9 : decode cX5_bubbleAt 9 = .ok (.invokevirtual 166, 3) := by decide +kernel
theorem dX5_bubbleAt_12 : decode cX5_bubbleAt 12 = .ok (.ireturn, 1) := by decide +kernel
set_option maxRecDepth 20000 in
theorem ggX5_bubble_X5_checkBubble : GoodIn wsX5_bubble wsX5_checkBubble := goodIn_ca (goodIn_r _ [8, 9, 10] (by decide +kernel) (by decide +kernel)) (goodIn_sub (fun _ h => List.mem_cons_of_mem _ (List.mem_append_right _ h)) (by decide +kernel))
set_option maxRecDepth 20000 in
theorem gX5_bubble_X5_checkBubble : GoodIn wsX5_bubble (va_wsS RX5 151 yX5_checkBubble wsX5_checkBubble) := goodIn_app (goodIn_of _ (by decide +kernel)) ggX5_bubble_X5_checkBubble
set_option maxRecDepth 20000 in
theorem ggX5_bubble_X1_size : GoodIn wsX5_bubble wsX1_size := goodIn_r _ [15, 16, 85, 86, 87, 88, 89, 90, 91] (by decide +kernel) (by decide +kernel)
set_option maxRecDepth 20000 in
theorem gX5_bubble_X1_size : GoodIn wsX5_bubble (wsV RX5 169 RX1 yX1_size wsX1_size) := goodIn_app (goodIn_of _ (by decide +kernel)) ggX5_bubble_X1_size
set_option maxRecDepth 20000 in
theorem ggX5_bubble_X1_pieces : GoodIn wsX5_bubble wsX1_pieces := goodIn_r _ [20, 21, 16, 22, 23, 24, 14, 25, 26, 27, 28, 29, 30, 31, 32, 33, 34, 35, 36, 37, 38, 85, 86, 87, 88, 89, 90, 91, 92, 93, 94, 95, 96, 97, 98] (by decide +kernel) (by decide +kernel)
set_option maxRecDepth 20000 in
theorem gX5_bubble_X1_pieces : GoodIn wsX5_bubble (wsV RX5 172 RX1 yX1_pieces wsX1_pieces) := goodIn_app (goodIn_of _ (by decide +kernel)) ggX5_bubble_X1_pieces
set_option maxRecDepth 20000 in
theorem ggX5_bubble_X1_wallsAround : GoodIn wsX5_bubble wsX1_wallsAround := goodIn_r _ [42, 43, 44, 45, 14, 46, 47, 48, 49, 50, 16, 51, 52, 53, 30, 54, 37, 55, 56, 57, 58, 38, 59, 60, 61, 62, 63, 85, 86, 87, 88, 89, 90, 91, 92, 93, 94, 95, 96, 97, 98] (by decide +kernel) (by decide +kernel)
set_option maxRecDepth 20000 in
theorem gX5_bubble_X1_wallsAround : GoodIn wsX5_bubble (wsV RX5 175 RX1 yX1_wallsAround wsX1_wallsAround) := goodIn_app (goodIn_of _ (by decide +kernel)) ggX5_bubble_X1_wallsAround
set_option maxRecDepth 20000 in
theorem ggX5_bubble_X1_neighbours : GoodIn wsX5_bubble wsX1_neighbours := goodIn_r _ [67, 16, 51, 52, 53, 30, 54, 37, 55, 56, 57, 58, 38, 68, 69, 70, 71, 72, 73, 74, 85, 86, 87, 88, 89, 90, 91, 92, 93, 94, 95, 96, 97, 98] (by decide +kernel) (by decide +kernel)
set_option maxRecDepth 20000 in
theorem gX5_bubble_X1_neighbours : GoodIn wsX5_bubble (wsV RX5 178 RX1 yX1_neighbours wsX1_neighbours) := goodIn_app (goodIn_of _ (by decide +kernel)) ggX5_bubble_X1_neighbours
set_option maxRecDepth 20000 in
theorem ggX5_bubble_X1_isHeld : GoodIn wsX5_bubble wsX1_isHeld := goodIn_r _ [78, 79, 85, 86, 87, 88, 89, 90, 91] (by decide +kernel) (by decide +kernel)
set_option maxRecDepth 20000 in
theorem gX5_bubble_X1_isHeld : GoodIn wsX5_bubble (wsV RX5 181 RX1 yX1_isHeld wsX1_isHeld) := goodIn_app (goodIn_of _ (by decide +kernel)) ggX5_bubble_X1_isHeld
theorem dX5_bubble_0 : decode cX5_bubble 0 = .ok (.iload_n 1, 1) := by decide +kernel
theorem dX5_bubble_1 : decode cX5_bubble 1 = .ok (.invokestatic 151, 3) := by decide +kernel
theorem dX5_bubble_4 : decode cX5_bubble 4 = .ok (.iload_n 2, 1) := by decide +kernel
theorem dX5_bubble_5 : decode cX5_bubble 5 = .ok (.tableswitch 100 0 4 #[35, 44, 57, 70, 83], 35) := by decide +kernel
theorem dX5_bubble_40 : decode cX5_bubble 40 = .ok (.aload_n 0, 1) := by decide +kernel
theorem dX5_bubble_41 : decode cX5_bubble 41 = .ok (.getfield 40, 3) := by decide +kernel
theorem dX5_bubble_44 : decode cX5_bubble 44 = .ok (.iload_n 1, 1) := by decide +kernel
theorem dX5_bubble_45 : decode cX5_bubble 45 = .ok (.invokevirtual 169, 3) := by decide +kernel
theorem dX5_bubble_48 : decode cX5_bubble 48 = .ok (.ireturn, 1) := by decide +kernel
theorem dX5_bubble_49 : decode cX5_bubble 49 = .ok (.aload_n 0, 1) := by decide +kernel
theorem dX5_bubble_50 : decode cX5_bubble 50 = .ok (.getfield 40, 3) := by decide +kernel
theorem dX5_bubble_53 : decode cX5_bubble 53 = .ok (.aload_n 0, 1) := by decide +kernel
theorem dX5_bubble_54 : decode cX5_bubble 54 = .ok (.getfield 10, 3) := by decide +kernel
theorem dX5_bubble_57 : decode cX5_bubble 57 = .ok (.iload_n 1, 1) := by decide +kernel
theorem dX5_bubble_58 : decode cX5_bubble 58 = .ok (.invokevirtual 172, 3) := by decide +kernel
theorem dX5_bubble_61 : decode cX5_bubble 61 = .ok (.ireturn, 1) := by decide +kernel
theorem dX5_bubble_62 : decode cX5_bubble 62 = .ok (.aload_n 0, 1) := by decide +kernel
theorem dX5_bubble_63 : decode cX5_bubble 63 = .ok (.getfield 40, 3) := by decide +kernel
theorem dX5_bubble_66 : decode cX5_bubble 66 = .ok (.aload_n 0, 1) := by decide +kernel
theorem dX5_bubble_67 : decode cX5_bubble 67 = .ok (.getfield 10, 3) := by decide +kernel
theorem dX5_bubble_70 : decode cX5_bubble 70 = .ok (.iload_n 1, 1) := by decide +kernel
theorem dX5_bubble_71 : decode cX5_bubble 71 = .ok (.invokevirtual 175, 3) := by decide +kernel
theorem dX5_bubble_74 : decode cX5_bubble 74 = .ok (.ireturn, 1) := by decide +kernel
theorem dX5_bubble_75 : decode cX5_bubble 75 = .ok (.aload_n 0, 1) := by decide +kernel
theorem dX5_bubble_76 : decode cX5_bubble 76 = .ok (.getfield 40, 3) := by decide +kernel
theorem dX5_bubble_79 : decode cX5_bubble 79 = .ok (.aload_n 0, 1) := by decide +kernel
theorem dX5_bubble_80 : decode cX5_bubble 80 = .ok (.getfield 10, 3) := by decide +kernel
theorem dX5_bubble_83 : decode cX5_bubble 83 = .ok (.iload_n 1, 1) := by decide +kernel
theorem dX5_bubble_84 : decode cX5_bubble 84 = .ok (.invokevirtual 178, 3) := by decide +kernel
theorem dX5_bubble_87 : decode cX5_bubble 87 = .ok (.ireturn, 1) := by decide +kernel
theorem dX5_bubble_88 : decode cX5_bubble 88 = .ok (.aload_n 0, 1) := by decide +kernel
theorem dX5_bubble_89 : decode cX5_bubble 89 = .ok (.getfield 40, 3) := by decide +kernel
theorem dX5_bubble_92 : decode cX5_bubble 92 = .ok (.iload_n 1, 1) := by decide +kernel
theorem dX5_bubble_93 : decode cX5_bubble 93 = .ok (.invokevirtual 181, 3) := by decide +kernel
theorem dX5_bubble_96 : decode cX5_bubble 96 = .ok (.ifCond .eq 7, 3) := by decide +kernel
theorem dX5_bubble_99 : decode cX5_bubble 99 = .ok (.iconst 1, 1) := by decide +kernel
theorem dX5_bubble_100 : decode cX5_bubble 100 = .ok (.goto 4, 3) := by decide +kernel
theorem dX5_bubble_103 : decode cX5_bubble 103 = .ok (.iconst 0, 1) := by decide +kernel
theorem dX5_bubble_104 : decode cX5_bubble 104 = .ok (.ireturn, 1) := by decide +kernel
theorem dX5_bubble_105 : decode cX5_bubble 105 = .ok (.new 44, 3) := by decide +kernel
theorem dX5_bubble_108 : decode cX5_bubble 108 = .ok (.dup, 1) := by decide +kernel
theorem dX5_bubble_109 : decode cX5_bubble 109 = .ok (.ldc 184, 2) := by decide +kernel
theorem dX5_bubble_111 : decode cX5_bubble 111 = .ok (.invokespecial 48, 3) := by decide +kernel
theorem dX5_bubble_114 : decode cX5_bubble 114 = .ok (.athrow, 1) := by decide +kernel
set_option maxRecDepth 20000 in
theorem ggX5_wall_X5_checkBubble : GoodIn wsX5_wall wsX5_checkBubble := goodIn_ca (goodIn_r _ [6, 7, 8] (by decide +kernel) (by decide +kernel)) (goodIn_sub (fun _ h => List.mem_cons_of_mem _ (List.mem_append_right _ h)) (by decide +kernel))
set_option maxRecDepth 20000 in
theorem gX5_wall_X5_checkBubble : GoodIn wsX5_wall (va_wsS RX5 151 yX5_checkBubble wsX5_checkBubble) := goodIn_app (goodIn_of _ (by decide +kernel)) ggX5_wall_X5_checkBubble
set_option maxRecDepth 20000 in
theorem ggX5_wall_X1_wallsBetween : GoodIn wsX5_wall wsX1_wallsBetween := goodIn_r _ [13, 14, 15, 16, 12, 17, 18, 19, 20, 21, 22, 23, 24, 25, 26, 27, 28, 29, 30, 31, 32, 33, 34, 40, 41, 42, 43, 44, 45, 46, 47, 48, 49, 50, 51, 52, 53] (by decide +kernel) (by decide +kernel)
set_option maxRecDepth 20000 in
theorem gX5_wall_X1_wallsBetween : GoodIn wsX5_wall (wsV RX5 186 RX1 yX1_wallsBetween wsX1_wallsBetween) := goodIn_app (goodIn_of _ (by decide +kernel)) ggX5_wall_X1_wallsBetween
theorem dX5_wall_0 : decode cX5_wall 0 = .ok (.iload_n 1, 1) := by decide +kernel
theorem dX5_wall_1 : decode cX5_wall 1 = .ok (.invokestatic 151, 3) := by decide +kernel
theorem dX5_wall_4 : decode cX5_wall 4 = .ok (.iload_n 2, 1) := by decide +kernel
theorem dX5_wall_5 : decode cX5_wall 5 = .ok (.invokestatic 151, 3) := by decide +kernel
theorem dX5_wall_8 : decode cX5_wall 8 = .ok (.iload_n 1, 1) := by decide +kernel
theorem dX5_wall_9 : decode cX5_wall 9 = .ok (.iload_n 2, 1) := by decide +kernel
theorem dX5_wall_10 : decode cX5_wall 10 = .ok (.if_icmp .ne 7, 3) := by decide +kernel
theorem dX5_wall_13 : decode cX5_wall 13 = .ok (.iconst 0, 1) := by decide +kernel
theorem dX5_wall_14 : decode cX5_wall 14 = .ok (.goto 16, 3) := by decide +kernel
theorem dX5_wall_17 : decode cX5_wall 17 = .ok (.aload_n 0, 1) := by decide +kernel
theorem dX5_wall_18 : decode cX5_wall 18 = .ok (.getfield 40, 3) := by decide +kernel
theorem dX5_wall_21 : decode cX5_wall 21 = .ok (.aload_n 0, 1) := by decide +kernel
theorem dX5_wall_22 : decode cX5_wall 22 = .ok (.getfield 10, 3) := by decide +kernel
theorem dX5_wall_25 : decode cX5_wall 25 = .ok (.iload_n 1, 1) := by decide +kernel
theorem dX5_wall_26 : decode cX5_wall 26 = .ok (.iload_n 2, 1) := by decide +kernel
theorem dX5_wall_27 : decode cX5_wall 27 = .ok (.invokevirtual 186, 3) := by decide +kernel
theorem dX5_wall_30 : decode cX5_wall 30 = .ok (.ireturn, 1) := by decide +kernel
set_option maxRecDepth 20000 in
theorem ggX5_corners_X1_cornersOf : GoodIn wsX5_corners wsX1_cornersOf := goodIn_r _ [8, 9, 10, 11, 7, 12, 13, 14, 15, 16, 17, 18, 19, 20, 26, 27, 28, 29, 30, 31, 32] (by decide +kernel) (by decide +kernel)
set_option maxRecDepth 20000 in
theorem gX5_corners_X1_cornersOf : GoodIn wsX5_corners (wsV RX5 191 RX1 yX1_cornersOf wsX1_cornersOf) := goodIn_app (goodIn_of _ (by decide +kernel)) ggX5_corners_X1_cornersOf
theorem dX5_corners_0 : decode cX5_corners 0 = .ok (.iload_n 1, 1) := by decide +kernel
theorem dX5_corners_1 : decode cX5_corners 1 = .ok (.iconst 1, 1) := by decide +kernel
theorem dX5_corners_2 : decode cX5_corners 2 = .ok (.if_icmp .lt 8, 3) := by decide +kernel
theorem dX5_corners_5 : decode cX5_corners 5 = .ok (.iload_n 1, 1) := by decide +kernel
theorem dX5_corners_6 : decode cX5_corners 6 = .ok (.iconst 4, 1) := by decide +kernel
theorem dX5_corners_7 : decode cX5_corners 7 = .ok (.if_icmp .le 13, 3) := by decide +kernel
theorem dX5_corners_10 : decode cX5_corners 10 = .ok (.new 44, 3) := by decide +kernel
theorem dX5_corners_13 : decode cX5_corners 13 = .ok (.dup, 1) := by decide +kernel
theorem dX5_corners_14 : decode cX5_corners 14 = .ok (.ldc 189, 2) := by decide +kernel
theorem dX5_corners_16 : decode cX5_corners 16 = .ok (.invokespecial 48, 3) := by decide +kernel
theorem dX5_corners_19 : decode cX5_corners 19 = .ok (.athrow, 1) := by decide +kernel
theorem dX5_corners_20 : decode cX5_corners 20 = .ok (.aload_n 0, 1) := by decide +kernel
theorem dX5_corners_21 : decode cX5_corners 21 = .ok (.getfield 40, 3) := by decide +kernel
theorem dX5_corners_24 : decode cX5_corners 24 = .ok (.iload_n 1, 1) := by decide +kernel
theorem dX5_corners_25 : decode cX5_corners 25 = .ok (.invokevirtual 191, 3) := by decide +kernel
theorem dX5_corners_28 : decode cX5_corners 28 = .ok (.ireturn, 1) := by decide +kernel
set_option maxRecDepth 20000 in
theorem ggX5_rests_X1_breathsToRest : GoodIn wsX5_rests wsX1_breathsToRest := goodIn_r _ [7, 8, 9, 10, 11, 12, 13, 14, 15, 16, 6, 17, 18, 19, 20, 21, 22, 23, 24, 25, 26, 27, 28, 29, 30, 31, 32, 33, 34, 35, 36, 37, 38, 39, 40, 41, 42, 48, 49, 50, 51, 52, 53, 54, 55, 56, 57, 58, 59, 60, 61] (by decide +kernel) (by decide +kernel)
set_option maxRecDepth 20000 in
theorem gX5_rests_X1_breathsToRest : GoodIn wsX5_rests (wsV RX5 194 RX1 yX1_breathsToRest wsX1_breathsToRest) := goodIn_app (goodIn_of _ (by decide +kernel)) ggX5_rests_X1_breathsToRest
theorem dX5_rests_0 : decode cX5_rests 0 = .ok (.aload_n 0, 1) := by decide +kernel
theorem dX5_rests_1 : decode cX5_rests 1 = .ok (.getfield 40, 3) := by decide +kernel
theorem dX5_rests_4 : decode cX5_rests 4 = .ok (.aload_n 0, 1) := by decide +kernel
theorem dX5_rests_5 : decode cX5_rests 5 = .ok (.getfield 10, 3) := by decide +kernel
theorem dX5_rests_8 : decode cX5_rests 8 = .ok (.invokevirtual 194, 3) := by decide +kernel
theorem dX5_rests_11 : decode cX5_rests 11 = .ok (.ireturn, 1) := by decide +kernel
set_option maxRecDepth 20000 in
theorem ggX5_energy_X1_energyNow : GoodIn wsX5_energy wsX1_energyNow := goodIn_r _ [9, 10, 11, 12, 8, 13, 14, 15, 16, 17, 18, 19, 20, 21, 22, 23, 24, 25, 26, 27, 28, 29, 79, 80, 81, 82, 83, 84, 85, 86, 87, 88, 89, 90, 91, 92] (by decide +kernel) (by decide +kernel)
set_option maxRecDepth 20000 in
theorem gX5_energy_X1_energyNow : GoodIn wsX5_energy (wsV RX5 53 RX1 yX1_energyNow wsX1_energyNow) := goodIn_app (goodIn_of _ (by decide +kernel)) ggX5_energy_X1_energyNow
set_option maxRecDepth 20000 in
theorem ggX5_energy_X1_energyAtRest : GoodIn wsX5_energy wsX1_energyAtRest := goodIn_r _ [33, 34, 35, 36, 37, 8, 38, 10, 39, 40, 41, 42, 43, 44, 45, 46, 47, 48, 49, 50, 51, 52, 53, 54, 55, 56, 57, 17, 58, 59, 60, 61, 62, 63, 19, 24, 25, 26, 27, 28, 29, 11, 12, 13, 14, 15, 16, 18, 20, 21, 22, 23, 79, 80, 81, 82, 83, 84, 85, 86, 87, 88, 89, 90, 91, 92] (by decide +kernel) (by decide +kernel)
set_option maxRecDepth 20000 in
theorem gX5_energy_X1_energyAtRest : GoodIn wsX5_energy (wsV RX5 197 RX1 yX1_energyAtRest wsX1_energyAtRest) := goodIn_app (goodIn_of _ (by decide +kernel)) ggX5_energy_X1_energyAtRest
set_option maxRecDepth 20000 in
theorem ggX5_energy_X1_workDone : GoodIn wsX5_energy wsX1_workDone := goodIn_r _ [67, 68, 79, 80, 81, 82, 83, 84, 85] (by decide +kernel) (by decide +kernel)
set_option maxRecDepth 20000 in
theorem gX5_energy_X1_workDone : GoodIn wsX5_energy (wsV RX5 200 RX1 yX1_workDone wsX1_workDone) := goodIn_app (goodIn_of _ (by decide +kernel)) ggX5_energy_X1_workDone
set_option maxRecDepth 20000 in
theorem ggX5_energy_X1_energyLost : GoodIn wsX5_energy wsX1_energyLost := goodIn_r _ [72, 73, 79, 80, 81, 82, 83, 84, 85] (by decide +kernel) (by decide +kernel)
set_option maxRecDepth 20000 in
theorem gX5_energy_X1_energyLost : GoodIn wsX5_energy (wsV RX5 204 RX1 yX1_energyLost wsX1_energyLost) := goodIn_app (goodIn_of _ (by decide +kernel)) ggX5_energy_X1_energyLost
theorem dX5_energy_0 : decode cX5_energy 0 = .ok (.iload_n 1, 1) := by decide +kernel
theorem dX5_energy_1 : decode cX5_energy 1 = .ok (.tableswitch 103 0 4 #[35, 47, 59, 67, 75], 35) := by decide +kernel
theorem dX5_energy_36 : decode cX5_energy 36 = .ok (.aload_n 0, 1) := by decide +kernel
theorem dX5_energy_37 : decode cX5_energy 37 = .ok (.getfield 40, 3) := by decide +kernel
theorem dX5_energy_40 : decode cX5_energy 40 = .ok (.aload_n 0, 1) := by decide +kernel
theorem dX5_energy_41 : decode cX5_energy 41 = .ok (.getfield 10, 3) := by decide +kernel
theorem dX5_energy_44 : decode cX5_energy 44 = .ok (.invokevirtual 53, 3) := by decide +kernel
theorem dX5_energy_47 : decode cX5_energy 47 = .ok (.ireturn, 1) := by decide +kernel
theorem dX5_energy_48 : decode cX5_energy 48 = .ok (.aload_n 0, 1) := by decide +kernel
theorem dX5_energy_49 : decode cX5_energy 49 = .ok (.getfield 40, 3) := by decide +kernel
theorem dX5_energy_52 : decode cX5_energy 52 = .ok (.aload_n 0, 1) := by decide +kernel
theorem dX5_energy_53 : decode cX5_energy 53 = .ok (.getfield 10, 3) := by decide +kernel
theorem dX5_energy_56 : decode cX5_energy 56 = .ok (.invokevirtual 197, 3) := by decide +kernel
theorem dX5_energy_59 : decode cX5_energy 59 = .ok (.ireturn, 1) := by decide +kernel
theorem dX5_energy_60 : decode cX5_energy 60 = .ok (.aload_n 0, 1) := by decide +kernel
theorem dX5_energy_61 : decode cX5_energy 61 = .ok (.getfield 40, 3) := by decide +kernel
theorem dX5_energy_64 : decode cX5_energy 64 = .ok (.invokevirtual 200, 3) := by decide +kernel
theorem dX5_energy_67 : decode cX5_energy 67 = .ok (.ireturn, 1) := by decide +kernel
theorem dX5_energy_68 : decode cX5_energy 68 = .ok (.aload_n 0, 1) := by decide +kernel
theorem dX5_energy_69 : decode cX5_energy 69 = .ok (.getfield 40, 3) := by decide +kernel
theorem dX5_energy_72 : decode cX5_energy 72 = .ok (.invokevirtual 204, 3) := by decide +kernel
theorem dX5_energy_75 : decode cX5_energy 75 = .ok (.ireturn, 1) := by decide +kernel
theorem dX5_energy_76 : decode cX5_energy 76 = .ok (.aload_n 0, 1) := by decide +kernel
theorem dX5_energy_77 : decode cX5_energy 77 = .ok (.getfield 40, 3) := by decide +kernel
theorem dX5_energy_80 : decode cX5_energy 80 = .ok (.aload_n 0, 1) := by decide +kernel
theorem dX5_energy_81 : decode cX5_energy 81 = .ok (.getfield 10, 3) := by decide +kernel
theorem dX5_energy_84 : decode cX5_energy 84 = .ok (.invokevirtual 53, 3) := by decide +kernel
theorem dX5_energy_87 : decode cX5_energy 87 = .ok (.aload_n 0, 1) := by decide +kernel
theorem dX5_energy_88 : decode cX5_energy 88 = .ok (.getfield 40, 3) := by decide +kernel
theorem dX5_energy_91 : decode cX5_energy 91 = .ok (.invokevirtual 204, 3) := by decide +kernel
theorem dX5_energy_94 : decode cX5_energy 94 = .ok (.iadd, 1) := by decide +kernel
theorem dX5_energy_95 : decode cX5_energy 95 = .ok (.aload_n 0, 1) := by decide +kernel
theorem dX5_energy_96 : decode cX5_energy 96 = .ok (.getfield 40, 3) := by decide +kernel
theorem dX5_energy_99 : decode cX5_energy 99 = .ok (.invokevirtual 200, 3) := by decide +kernel
theorem dX5_energy_102 : decode cX5_energy 102 = .ok (.isub, 1) := by decide +kernel
theorem dX5_energy_103 : decode cX5_energy 103 = .ok (.ireturn, 1) := by decide +kernel
theorem dX5_energy_104 : decode cX5_energy 104 = .ok (.new 44, 3) := by decide +kernel
theorem dX5_energy_107 : decode cX5_energy 107 = .ok (.dup, 1) := by decide +kernel
theorem dX5_energy_108 : decode cX5_energy 108 = .ok (.ldc 207, 2) := by decide +kernel
theorem dX5_energy_110 : decode cX5_energy 110 = .ok (.invokespecial 48, 3) := by decide +kernel
theorem dX5_energy_113 : decode cX5_energy 113 = .ok (.athrow, 1) := by decide +kernel
set_option maxRecDepth 20000 in
theorem ggX5_takeInNewPrices_X3_forget : GoodIn wsX5_takeInNewPrices wsX3_forget := goodIn_r _ [8, 9, 45, 46, 47, 48, 49, 50, 51] (by decide +kernel) (by decide +kernel)
set_option maxRecDepth 20000 in
theorem gX5_takeInNewPrices_X3_forget : GoodIn wsX5_takeInNewPrices (wsV RX5 209 RX3 yX3_forget wsX3_forget) := goodIn_app (goodIn_of _ (by decide +kernel)) ggX5_takeInNewPrices_X3_forget
set_option maxRecDepth 20000 in
theorem ggX5_takeInNewPrices_X1_energyNow : GoodIn wsX5_takeInNewPrices wsX1_energyNow := goodIn_r _ [14, 15, 16, 17, 13, 18, 19, 20, 21, 22, 23, 24, 25, 26, 27, 28, 29, 30, 31, 32, 33, 34, 52, 53, 54, 55, 56, 57, 58, 59, 60, 61, 62, 63, 64, 65] (by decide +kernel) (by decide +kernel)
set_option maxRecDepth 20000 in
theorem gX5_takeInNewPrices_X1_energyNow : GoodIn wsX5_takeInNewPrices (wsV RX5 53 RX1 yX1_energyNow wsX1_energyNow) := goodIn_app (goodIn_of _ (by decide +kernel)) ggX5_takeInNewPrices_X1_energyNow
set_option maxRecDepth 20000 in
theorem ggX5_takeInNewPrices_X1_addWork : GoodIn wsX5_takeInNewPrices wsX1_addWork := goodIn_r _ [38, 39, 52, 53, 54, 55, 56, 57, 58] (by decide +kernel) (by decide +kernel)
set_option maxRecDepth 20000 in
theorem gX5_takeInNewPrices_X1_addWork : GoodIn wsX5_takeInNewPrices (wsV RX5 212 RX1 yX1_addWork wsX1_addWork) := goodIn_app (goodIn_of _ (by decide +kernel)) ggX5_takeInNewPrices_X1_addWork
theorem dX5_takeInNewPrices_0 : decode cX5_takeInNewPrices 0 = .ok (.aload_n 0, 1) := by decide +kernel
theorem dX5_takeInNewPrices_1 : decode cX5_takeInNewPrices 1 = .ok (.getfield 26, 3) := by decide +kernel
theorem dX5_takeInNewPrices_4 : decode cX5_takeInNewPrices 4 = .ok (.invokevirtual 209, 3) := by decide +kernel
theorem dX5_takeInNewPrices_7 : decode cX5_takeInNewPrices 7 = .ok (.aload_n 0, 1) := by decide +kernel
theorem dX5_takeInNewPrices_8 : decode cX5_takeInNewPrices 8 = .ok (.getfield 40, 3) := by decide +kernel
theorem dX5_takeInNewPrices_11 : decode cX5_takeInNewPrices 11 = .ok (.aload_n 0, 1) := by decide +kernel
theorem dX5_takeInNewPrices_12 : decode cX5_takeInNewPrices 12 = .ok (.getfield 40, 3) := by decide +kernel
theorem dX5_takeInNewPrices_15 : decode cX5_takeInNewPrices 15 = .ok (.aload_n 0, 1) := by decide +kernel
theorem dX5_takeInNewPrices_16 : decode cX5_takeInNewPrices 16 = .ok (.getfield 10, 3) := by decide +kernel
theorem dX5_takeInNewPrices_19 : decode cX5_takeInNewPrices 19 = .ok (.invokevirtual 53, 3) := by decide +kernel
theorem dX5_takeInNewPrices_22 : decode cX5_takeInNewPrices 22 = .ok (.iload_n 1, 1) := by decide +kernel
theorem dX5_takeInNewPrices_23 : decode cX5_takeInNewPrices 23 = .ok (.isub, 1) := by decide +kernel
theorem dX5_takeInNewPrices_24 : decode cX5_takeInNewPrices 24 = .ok (.invokevirtual 212, 3) := by decide +kernel
theorem dX5_takeInNewPrices_27 : decode cX5_takeInNewPrices 27 = .ok (.return_, 1) := by decide +kernel
theorem dX5_checkNode_0 : decode cX5_checkNode 0 = .ok (.iload_n 0, 1) := by decide +kernel
theorem dX5_checkNode_1 : decode cX5_checkNode 1 = .ok (.ifCond .lt 9, 3) := by decide +kernel
theorem dX5_checkNode_4 : decode cX5_checkNode 4 = .ok (.iload_n 0, 1) := by decide +kernel
theorem dX5_checkNode_5 : decode cX5_checkNode 5 = .ok (.bipush 36, 2) := by decide +kernel
theorem dX5_checkNode_7 : decode cX5_checkNode 7 = .ok (.if_icmp .lt 13, 3) := by decide +kernel
theorem dX5_checkNode_10 : decode cX5_checkNode 10 = .ok (.new 215, 3) := by decide +kernel
theorem dX5_checkNode_13 : decode cX5_checkNode 13 = .ok (.dup, 1) := by decide +kernel
theorem dX5_checkNode_14 : decode cX5_checkNode 14 = .ok (.ldc 217, 2) := by decide +kernel
theorem dX5_checkNode_16 : decode cX5_checkNode 16 = .ok (.invokespecial 219, 3) := by decide +kernel
theorem dX5_checkNode_19 : decode cX5_checkNode 19 = .ok (.athrow, 1) := by decide +kernel
theorem dX5_checkNode_20 : decode cX5_checkNode 20 = .ok (.return_, 1) := by decide +kernel
theorem dX5_checkEdge_0 : decode cX5_checkEdge 0 = .ok (.iload_n 0, 1) := by decide +kernel
theorem dX5_checkEdge_1 : decode cX5_checkEdge 1 = .ok (.ifCond .lt 9, 3) := by decide +kernel
theorem dX5_checkEdge_4 : decode cX5_checkEdge 4 = .ok (.iload_n 0, 1) := by decide +kernel
theorem dX5_checkEdge_5 : decode cX5_checkEdge 5 = .ok (.bipush 60, 2) := by decide +kernel
theorem dX5_checkEdge_7 : decode cX5_checkEdge 7 = .ok (.if_icmp .lt 13, 3) := by decide +kernel
theorem dX5_checkEdge_10 : decode cX5_checkEdge 10 = .ok (.new 215, 3) := by decide +kernel
theorem dX5_checkEdge_13 : decode cX5_checkEdge 13 = .ok (.dup, 1) := by decide +kernel
theorem dX5_checkEdge_14 : decode cX5_checkEdge 14 = .ok (.ldc 220, 2) := by decide +kernel
theorem dX5_checkEdge_16 : decode cX5_checkEdge 16 = .ok (.invokespecial 219, 3) := by decide +kernel
theorem dX5_checkEdge_19 : decode cX5_checkEdge 19 = .ok (.athrow, 1) := by decide +kernel
theorem dX5_checkEdge_20 : decode cX5_checkEdge 20 = .ok (.return_, 1) := by decide +kernel
set_option maxRecDepth 20000 in
theorem ggX5_checkTown_X3_size : GoodIn wsX5_checkTown wsX3_size := goodIn_r _ [8, 9, 15, 16, 17, 18, 19, 20, 21] (by decide +kernel) (by decide +kernel)
set_option maxRecDepth 20000 in
theorem gX5_checkTown_X3_size : GoodIn wsX5_checkTown (wsV RX5 222 RX3 yX3_size wsX3_size) := goodIn_app (goodIn_of _ (by decide +kernel)) ggX5_checkTown_X3_size
theorem dX5_checkTown_0 : decode cX5_checkTown 0 = .ok (.iload_n 1, 1) := by decide +kernel
theorem dX5_checkTown_1 : decode cX5_checkTown 1 = .ok (.ifCond .lt 14, 3) := by decide +kernel
theorem dX5_checkTown_4 : decode cX5_checkTown 4 = .ok (.iload_n 1, 1) := by decide +kernel
theorem dX5_checkTown_5 : decode cX5_checkTown 5 = .ok (.aload_n 0, 1) := by decide +kernel
theorem dX5_checkTown_6 : decode cX5_checkTown 6 = .ok (.getfield 26, 3) := by decide +kernel
theorem dX5_checkTown_9 : decode cX5_checkTown 9 = .ok (.invokevirtual 222, 3) := by decide +kernel
theorem dX5_checkTown_12 : decode cX5_checkTown 12 = .ok (.if_icmp .lt 13, 3) := by decide +kernel
theorem dX5_checkTown_15 : decode cX5_checkTown 15 = .ok (.new 215, 3) := by decide +kernel
theorem dX5_checkTown_18 : decode cX5_checkTown 18 = .ok (.dup, 1) := by decide +kernel
theorem dX5_checkTown_19 : decode cX5_checkTown 19 = .ok (.ldc 224, 2) := by decide +kernel
theorem dX5_checkTown_21 : decode cX5_checkTown 21 = .ok (.invokespecial 219, 3) := by decide +kernel
theorem dX5_checkTown_24 : decode cX5_checkTown 24 = .ok (.athrow, 1) := by decide +kernel
theorem dX5_checkTown_25 : decode cX5_checkTown 25 = .ok (.return_, 1) := by decide +kernel
theorem dX5_checkBubble_0 : decode cX5_checkBubble 0 = .ok (.iload_n 0, 1) := by decide +kernel
theorem dX5_checkBubble_1 : decode cX5_checkBubble 1 = .ok (.ifCond .lt 9, 3) := by decide +kernel
theorem dX5_checkBubble_4 : decode cX5_checkBubble 4 = .ok (.iload_n 0, 1) := by decide +kernel
theorem dX5_checkBubble_5 : decode cX5_checkBubble 5 = .ok (.bipush 8, 2) := by decide +kernel
theorem dX5_checkBubble_7 : decode cX5_checkBubble 7 = .ok (.if_icmp .lt 13, 3) := by decide +kernel
theorem dX5_checkBubble_10 : decode cX5_checkBubble 10 = .ok (.new 215, 3) := by decide +kernel
theorem dX5_checkBubble_13 : decode cX5_checkBubble 13 = .ok (.dup, 1) := by decide +kernel
theorem dX5_checkBubble_14 : decode cX5_checkBubble 14 = .ok (.ldc 226, 2) := by decide +kernel
theorem dX5_checkBubble_16 : decode cX5_checkBubble 16 = .ok (.invokespecial 219, 3) := by decide +kernel
theorem dX5_checkBubble_19 : decode cX5_checkBubble 19 = .ok (.athrow, 1) := by decide +kernel
theorem dX5_checkBubble_20 : decode cX5_checkBubble 20 = .ok (.return_, 1) := by decide +kernel
theorem dJ6_bitCount_0f7a4_0 : decode cJ6_bitCount_0f7a4 0 = .ok (.iload_n 0, 1) := by decide +kernel
theorem dJ6_bitCount_0f7a4_1 : decode cJ6_bitCount_0f7a4 1 = .ok (.iload_n 0, 1) := by decide +kernel
theorem dJ6_bitCount_0f7a4_2 : decode cJ6_bitCount_0f7a4 2 = .ok (.iconst 1, 1) := by decide +kernel
theorem dJ6_bitCount_0f7a4_3 : decode cJ6_bitCount_0f7a4 3 = .ok (.iushr, 1) := by decide +kernel
theorem dJ6_bitCount_0f7a4_4 : decode cJ6_bitCount_0f7a4 4 = .ok (.ldc_w 265, 3) := by decide +kernel
theorem dJ6_bitCount_0f7a4_7 : decode cJ6_bitCount_0f7a4 7 = .ok (.iand, 1) := by decide +kernel
theorem dJ6_bitCount_0f7a4_8 : decode cJ6_bitCount_0f7a4 8 = .ok (.isub, 1) := by decide +kernel
theorem dJ6_bitCount_0f7a4_9 : decode cJ6_bitCount_0f7a4 9 = .ok (.istore_n 0, 1) := by decide +kernel
theorem dJ6_bitCount_0f7a4_10 : decode cJ6_bitCount_0f7a4 10 = .ok (.iload_n 0, 1) := by decide +kernel
theorem dJ6_bitCount_0f7a4_11 : decode cJ6_bitCount_0f7a4 11 = .ok (.ldc_w 266, 3) := by decide +kernel
theorem dJ6_bitCount_0f7a4_14 : decode cJ6_bitCount_0f7a4 14 = .ok (.iand, 1) := by decide +kernel
theorem dJ6_bitCount_0f7a4_15 : decode cJ6_bitCount_0f7a4 15 = .ok (.iload_n 0, 1) := by decide +kernel
theorem dJ6_bitCount_0f7a4_16 : decode cJ6_bitCount_0f7a4 16 = .ok (.iconst 2, 1) := by decide +kernel
theorem dJ6_bitCount_0f7a4_17 : decode cJ6_bitCount_0f7a4 17 = .ok (.iushr, 1) := by decide +kernel
theorem dJ6_bitCount_0f7a4_18 : decode cJ6_bitCount_0f7a4 18 = .ok (.ldc_w 266, 3) := by decide +kernel
theorem dJ6_bitCount_0f7a4_21 : decode cJ6_bitCount_0f7a4 21 = .ok (.iand, 1) := by decide +kernel
theorem dJ6_bitCount_0f7a4_22 : decode cJ6_bitCount_0f7a4 22 = .ok (.iadd, 1) := by decide +kernel
theorem dJ6_bitCount_0f7a4_23 : decode cJ6_bitCount_0f7a4 23 = .ok (.istore_n 0, 1) := by decide +kernel
theorem dJ6_bitCount_0f7a4_24 : decode cJ6_bitCount_0f7a4 24 = .ok (.iload_n 0, 1) := by decide +kernel
theorem dJ6_bitCount_0f7a4_25 : decode cJ6_bitCount_0f7a4 25 = .ok (.iload_n 0, 1) := by decide +kernel
theorem dJ6_bitCount_0f7a4_26 : decode cJ6_bitCount_0f7a4 26 = .ok (.iconst 4, 1) := by decide +kernel
theorem dJ6_bitCount_0f7a4_27 : decode cJ6_bitCount_0f7a4 27 = .ok (.iushr, 1) := by decide +kernel
theorem dJ6_bitCount_0f7a4_28 : decode cJ6_bitCount_0f7a4 28 = .ok (.iadd, 1) := by decide +kernel
theorem dJ6_bitCount_0f7a4_29 : decode cJ6_bitCount_0f7a4 29 = .ok (.ldc_w 267, 3) := by decide +kernel
theorem dJ6_bitCount_0f7a4_32 : decode cJ6_bitCount_0f7a4 32 = .ok (.iand, 1) := by decide +kernel
theorem dJ6_bitCount_0f7a4_33 : decode cJ6_bitCount_0f7a4 33 = .ok (.istore_n 0, 1) := by decide +kernel
theorem dJ6_bitCount_0f7a4_34 : decode cJ6_bitCount_0f7a4 34 = .ok (.iload_n 0, 1) := by decide +kernel
theorem dJ6_bitCount_0f7a4_35 : decode cJ6_bitCount_0f7a4 35 = .ok (.iload_n 0, 1) := by decide +kernel
theorem dJ6_bitCount_0f7a4_36 : decode cJ6_bitCount_0f7a4 36 = .ok (.bipush 8, 2) := by decide +kernel
theorem dJ6_bitCount_0f7a4_38 : decode cJ6_bitCount_0f7a4 38 = .ok (.iushr, 1) := by decide +kernel
theorem dJ6_bitCount_0f7a4_39 : decode cJ6_bitCount_0f7a4 39 = .ok (.iadd, 1) := by decide +kernel
theorem dJ6_bitCount_0f7a4_40 : decode cJ6_bitCount_0f7a4 40 = .ok (.istore_n 0, 1) := by decide +kernel
theorem dJ6_bitCount_0f7a4_41 : decode cJ6_bitCount_0f7a4 41 = .ok (.iload_n 0, 1) := by decide +kernel
theorem dJ6_bitCount_0f7a4_42 : decode cJ6_bitCount_0f7a4 42 = .ok (.iload_n 0, 1) := by decide +kernel
theorem dJ6_bitCount_0f7a4_43 : decode cJ6_bitCount_0f7a4 43 = .ok (.bipush 16, 2) := by decide +kernel
theorem dJ6_bitCount_0f7a4_45 : decode cJ6_bitCount_0f7a4 45 = .ok (.iushr, 1) := by decide +kernel
theorem dJ6_bitCount_0f7a4_46 : decode cJ6_bitCount_0f7a4 46 = .ok (.iadd, 1) := by decide +kernel
theorem dJ6_bitCount_0f7a4_47 : decode cJ6_bitCount_0f7a4 47 = .ok (.istore_n 0, 1) := by decide +kernel
theorem dJ6_bitCount_0f7a4_48 : decode cJ6_bitCount_0f7a4 48 = .ok (.iload_n 0, 1) := by decide +kernel
theorem dJ6_bitCount_0f7a4_49 : decode cJ6_bitCount_0f7a4 49 = .ok (.bipush 63, 2) := by decide +kernel
theorem dJ6_bitCount_0f7a4_51 : decode cJ6_bitCount_0f7a4 51 = .ok (.iand, 1) := by decide +kernel
theorem dJ6_bitCount_0f7a4_52 : decode cJ6_bitCount_0f7a4 52 = .ok (.ireturn, 1) := by decide +kernel
theorem dJ9_max_7cf53_0 : decode cJ9_max_7cf53 0 = .ok (.iload_n 0, 1) := by decide +kernel
theorem dJ9_max_7cf53_1 : decode cJ9_max_7cf53 1 = .ok (.iload_n 1, 1) := by decide +kernel
theorem dJ9_max_7cf53_2 : decode cJ9_max_7cf53 2 = .ok (.if_icmp .lt 7, 3) := by decide +kernel
theorem dJ9_max_7cf53_5 : decode cJ9_max_7cf53 5 = .ok (.iload_n 0, 1) := by decide +kernel
theorem dJ9_max_7cf53_6 : decode cJ9_max_7cf53 6 = .ok (.goto 4, 3) := by decide +kernel
theorem dJ9_max_7cf53_9 : decode cJ9_max_7cf53 9 = .ok (.iload_n 1, 1) := by decide +kernel
theorem dJ9_max_7cf53_10 : decode cJ9_max_7cf53 10 = .ok (.ireturn, 1) := by decide +kernel
theorem dJ9_min_7cf53_0 : decode cJ9_min_7cf53 0 = .ok (.iload_n 0, 1) := by decide +kernel
theorem dJ9_min_7cf53_1 : decode cJ9_min_7cf53 1 = .ok (.iload_n 1, 1) := by decide +kernel
theorem dJ9_min_7cf53_2 : decode cJ9_min_7cf53 2 = .ok (.if_icmp .gt 7, 3) := by decide +kernel
theorem dJ9_min_7cf53_5 : decode cJ9_min_7cf53 5 = .ok (.iload_n 0, 1) := by decide +kernel
theorem dJ9_min_7cf53_6 : decode cJ9_min_7cf53 6 = .ok (.goto 4, 3) := by decide +kernel
theorem dJ9_min_7cf53_9 : decode cJ9_min_7cf53 9 = .ok (.iload_n 1, 1) := by decide +kernel
theorem dJ9_min_7cf53_10 : decode cJ9_min_7cf53 10 = .ok (.ireturn, 1) := by decide +kernel
