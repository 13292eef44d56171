theorem dX0_init_0 : decode cX0_init 0 = .ok (.aload_n 0, 1) := by decide +kernel
theorem dX0_init_1 : decode cX0_init 1 = .ok (.invokespecial 3, 3) := by decide +kernel
theorem dX0_init_4 : decode cX0_init 4 = .ok (.aload_n 0, 1) := by decide +kernel
theorem dX0_init_5 : decode cX0_init 5 = .ok (.bipush 36, 2) := by decide +kernel
theorem dX0_init_7 : decode cX0_init 7 = .ok (.newarray .int, 2) := by decide +kernel
theorem dX0_init_9 : decode cX0_init 9 = .ok (.putfield 9, 3) := by decide +kernel
theorem dX0_init_12 : decode cX0_init 12 = .ok (.aload_n 0, 1) := by decide +kernel
theorem dX0_init_13 : decode cX0_init 13 = .ok (.bipush 60, 2) := by decide +kernel
theorem dX0_init_15 : decode cX0_init 15 = .ok (.newarray .int, 2) := by decide +kernel
theorem dX0_init_17 : decode cX0_init 17 = .ok (.putfield 15, 3) := by decide +kernel
theorem dX0_init_20 : decode cX0_init 20 = .ok (.aload_n 0, 1) := by decide +kernel
theorem dX0_init_21 : decode cX0_init 21 = .ok (.bipush 36, 2) := by decide +kernel
theorem dX0_init_23 : decode cX0_init 23 = .ok (.newarray .int, 2) := by decide +kernel
theorem dX0_init_25 : decode cX0_init 25 = .ok (.putfield 18, 3) := by decide +kernel
theorem dX0_init_28 : decode cX0_init 28 = .ok (.aload_n 0, 1) := by decide +kernel
theorem dX0_init_29 : decode cX0_init 29 = .ok (.bipush 36, 2) := by decide +kernel
theorem dX0_init_31 : decode cX0_init 31 = .ok (.newarray .int, 2) := by decide +kernel
theorem dX0_init_33 : decode cX0_init 33 = .ok (.putfield 21, 3) := by decide +kernel
theorem dX0_init_36 : decode cX0_init 36 = .ok (.return_, 1) := by decide +kernel
theorem dX0_change_0 : decode cX0_change 0 = .ok (.aload_n 0, 1) := by decide +kernel
theorem dX0_change_1 : decode cX0_change 1 = .ok (.getfield 9, 3) := by decide +kernel
theorem dX0_change_4 : decode cX0_change 4 = .ok (.iload_n 1, 1) := by decide +kernel
theorem dX0_change_5 : decode cX0_change 5 = .ok (.iaload, 1) := by decide +kernel
theorem dX0_change_6 : decode cX0_change 6 = .ok (.istore_n 3, 1) := by decide +kernel
theorem dX0_change_7 : decode cX0_change 7 = .ok (.aload_n 0, 1) := by decide +kernel
theorem dX0_change_8 : decode cX0_change 8 = .ok (.getfield 9, 3) := by decide +kernel
theorem dX0_change_11 : decode cX0_change 11 = .ok (.iload_n 1, 1) := by decide +kernel
theorem dX0_change_12 : decode cX0_change 12 = .ok (.iload_n 2, 1) := by decide +kernel
theorem dX0_change_13 : decode cX0_change 13 = .ok (.iastore, 1) := by decide +kernel
theorem dX0_change_14 : decode cX0_change 14 = .ok (.iload_n 3, 1) := by decide +kernel
theorem dX0_change_15 : decode cX0_change 15 = .ok (.ireturn, 1) := by decide +kernel
theorem dX0_isFilm_0 : decode cX0_isFilm 0 = .ok (.iconst 0, 1) := by decide +kernel
theorem dX0_isFilm_1 : decode cX0_isFilm 1 = .ok (.istore_n 3, 1) := by decide +kernel
theorem dX0_isFilm_2 : decode cX0_isFilm 2 = .ok (.iload_n 3, 1) := by decide +kernel
theorem dX0_isFilm_3 : decode cX0_isFilm 3 = .ok (.bipush 36, 2) := by decide +kernel
theorem dX0_isFilm_5 : decode cX0_isFilm 5 = .ok (.if_icmp .ge 33, 3) := by decide +kernel
theorem dX0_isFilm_8 : decode cX0_isFilm 8 = .ok (.aload_n 0, 1) := by decide +kernel
theorem dX0_isFilm_9 : decode cX0_isFilm 9 = .ok (.getfield 9, 3) := by decide +kernel
theorem dX0_isFilm_12 : decode cX0_isFilm 12 = .ok (.iload_n 3, 1) := by decide +kernel
theorem dX0_isFilm_13 : decode cX0_isFilm 13 = .ok (.iaload, 1) := by decide +kernel
theorem dX0_isFilm_14 : decode cX0_isFilm 14 = .ok (.lload_n 1, 1) := by decide +kernel
theorem dX0_isFilm_15 : decode cX0_isFilm 15 = .ok (.iload_n 3, 1) := by decide +kernel
theorem dX0_isFilm_16 : decode cX0_isFilm 16 = .ok (.invokestatic 24, 3) := by decide +kernel
theorem dX0_isFilm_19 : decode cX0_isFilm 19 = .ok (.ifCond .eq 7, 3) := by decide +kernel
theorem dX0_isFilm_22 : decode cX0_isFilm 22 = .ok (.iconst 2, 1) := by decide +kernel
theorem dX0_isFilm_23 : decode cX0_isFilm 23 = .ok (.goto 4, 3) := by decide +kernel
theorem dX0_isFilm_26 : decode cX0_isFilm 26 = .ok (.iconst 1, 1) := by decide +kernel
theorem dX0_isFilm_27 : decode cX0_isFilm 27 = .ok (.if_icmp .ne 5, 3) := by decide +kernel
theorem dX0_isFilm_30 : decode cX0_isFilm 30 = .ok (.iconst 0, 1) := by decide +kernel
theorem dX0_isFilm_31 : decode cX0_isFilm 31 = .ok (.ireturn, 1) := by decide +kernel
theorem dX0_isFilm_32 : decode cX0_isFilm 32 = .ok (.iinc 3 1, 3) := by decide +kernel
theorem dX0_isFilm_35 : decode cX0_isFilm 35 = .ok (.goto (-33), 3) := by decide +kernel
theorem dX0_isFilm_38 : decode cX0_isFilm 38 = .ok (.iconst 1, 1) := by decide +kernel
theorem dX0_isFilm_39 : decode cX0_isFilm 39 = .ok (.ireturn, 1) := by decide +kernel
theorem dX0_priceOf_0 : decode cX0_priceOf 0 = .ok (.iconst 0, 1) := by decide +kernel
theorem dX0_priceOf_1 : decode cX0_priceOf 1 = .ok (.istore 4, 2) := by decide +kernel
theorem dX0_priceOf_3 : decode cX0_priceOf 3 = .ok (.iconst 0, 1) := by decide +kernel
theorem dX0_priceOf_4 : decode cX0_priceOf 4 = .ok (.istore 5, 2) := by decide +kernel
theorem dX0_priceOf_6 : decode cX0_priceOf 6 = .ok (.iload 5, 2) := by decide +kernel
theorem dX0_priceOf_8 : decode cX0_priceOf 8 = .ok (.bipush 60, 2) := by decide +kernel
theorem dX0_priceOf_10 : decode cX0_priceOf 10 = .ok (.if_icmp .ge 43, 3) := by decide +kernel
theorem dX0_priceOf_13 : decode cX0_priceOf 13 = .ok (.lload_n 2, 1) := by decide +kernel
theorem dX0_priceOf_14 : decode cX0_priceOf 14 = .ok (.aload_n 1, 1) := by decide +kernel
theorem dX0_priceOf_15 : decode cX0_priceOf 15 = .ok (.iload 5, 2) := by decide +kernel
theorem dX0_priceOf_17 : decode cX0_priceOf 17 = .ok (.invokevirtual 28, 3) := by decide +kernel
theorem dX0_priceOf_20 : decode cX0_priceOf 20 = .ok (.invokestatic 24, 3) := by decide +kernel
theorem dX0_priceOf_23 : decode cX0_priceOf 23 = .ok (.lload_n 2, 1) := by decide +kernel
theorem dX0_priceOf_24 : decode cX0_priceOf 24 = .ok (.aload_n 1, 1) := by decide +kernel
theorem dX0_priceOf_25 : decode cX0_priceOf 25 = .ok (.iload 5, 2) := by decide +kernel
theorem dX0_priceOf_27 : decode cX0_priceOf 27 = .ok (.invokevirtual 34, 3) := by decide +kernel
theorem dX0_priceOf_30 : decode cX0_priceOf 30 = .ok (.invokestatic 24, 3) := by decide +kernel
theorem dX0_priceOf_33 : decode cX0_priceOf 33 = .ok (.if_icmp .eq 14, 3) := by decide +kernel
theorem dX0_priceOf_36 : decode cX0_priceOf 36 = .ok (.iload 4, 2) := by decide +kernel
theorem dX0_priceOf_38 : decode cX0_priceOf 38 = .ok (.aload_n 1, 1) := by decide +kernel
theorem dX0_priceOf_39 : decode cX0_priceOf 39 = .ok (.iload 5, 2) := by decide +kernel
theorem dX0_priceOf_41 : decode cX0_priceOf 41 = .ok (.invokevirtual 37, 3) := by decide +kernel
theorem dX0_priceOf_44 : decode cX0_priceOf 44 = .ok (.iadd, 1) := by decide +kernel
theorem dX0_priceOf_45 : decode cX0_priceOf 45 = .ok (.istore 4, 2) := by decide +kernel
theorem dX0_priceOf_47 : decode cX0_priceOf 47 = .ok (.iinc 5 1, 3) := by decide +kernel
theorem dX0_priceOf_50 : decode cX0_priceOf 50 = .ok (.goto (-44), 3) := by decide +kernel
theorem dX0_priceOf_53 : decode cX0_priceOf 53 = .ok (.iload 4, 2) := by decide +kernel
theorem dX0_priceOf_55 : decode cX0_priceOf 55 = .ok (.ireturn, 1) := by decide +kernel
theorem dX0_smallest_0 : decode cX0_smallest 0 = .ok (.aload_n 0, 1) := by decide +kernel
theorem dX0_smallest_1 : decode cX0_smallest 1 = .ok (.aload_n 1, 1) := by decide +kernel
theorem dX0_smallest_2 : decode cX0_smallest 2 = .ok (.invokevirtual 40, 3) := by decide +kernel
theorem dX0_smallest_5 : decode cX0_smallest 5 = .ok (.aload_n 0, 1) := by decide +kernel
theorem dX0_smallest_6 : decode cX0_smallest 6 = .ok (.aload_n 1, 1) := by decide +kernel
theorem dX0_smallest_7 : decode cX0_smallest 7 = .ok (.iconst 1, 1) := by decide +kernel
theorem dX0_smallest_8 : decode cX0_smallest 8 = .ok (.invokevirtual 44, 3) := by decide +kernel
theorem dX0_smallest_11 : decode cX0_smallest 11 = .ok (.pop, 1) := by decide +kernel
theorem dX0_smallest_12 : decode cX0_smallest 12 = .ok (.aload_n 0, 1) := by decide +kernel
theorem dX0_smallest_13 : decode cX0_smallest 13 = .ok (.invokevirtual 48, 3) := by decide +kernel
theorem dX0_smallest_16 : decode cX0_smallest 16 = .ok (.lreturn, 1) := by decide +kernel
theorem dX0_greatest_0 : decode cX0_greatest 0 = .ok (.aload_n 0, 1) := by decide +kernel
theorem dX0_greatest_1 : decode cX0_greatest 1 = .ok (.aload_n 1, 1) := by decide +kernel
theorem dX0_greatest_2 : decode cX0_greatest 2 = .ok (.invokevirtual 40, 3) := by decide +kernel
theorem dX0_greatest_5 : decode cX0_greatest 5 = .ok (.aload_n 0, 1) := by decide +kernel
theorem dX0_greatest_6 : decode cX0_greatest 6 = .ok (.aload_n 1, 1) := by decide +kernel
theorem dX0_greatest_7 : decode cX0_greatest 7 = .ok (.iconst 2, 1) := by decide +kernel
theorem dX0_greatest_8 : decode cX0_greatest 8 = .ok (.invokevirtual 44, 3) := by decide +kernel
theorem dX0_greatest_11 : decode cX0_greatest 11 = .ok (.pop, 1) := by decide +kernel
theorem dX0_greatest_12 : decode cX0_greatest 12 = .ok (.ldc2_w 52, 3) := by decide +kernel
theorem dX0_greatest_15 : decode cX0_greatest 15 = .ok (.aload_n 0, 1) := by decide +kernel
theorem dX0_greatest_16 : decode cX0_greatest 16 = .ok (.invokevirtual 48, 3) := by decide +kernel
theorem dX0_greatest_19 : decode cX0_greatest 19 = .ok (.ldc2_w 54, 3) := by decide +kernel
theorem dX0_greatest_22 : decode cX0_greatest 22 = .ok (.lxor, 1) := by decide +kernel
theorem dX0_greatest_23 : decode cX0_greatest 23 = .ok (.land, 1) := by decide +kernel
theorem dX0_greatest_24 : decode cX0_greatest 24 = .ok (.lreturn, 1) := by decide +kernel
theorem dX0_proved_0 : decode cX0_proved 0 = .ok (.aload_n 0, 1) := by decide +kernel
theorem dX0_proved_1 : decode cX0_proved 1 = .ok (.aload_n 1, 1) := by decide +kernel
theorem dX0_proved_2 : decode cX0_proved 2 = .ok (.invokevirtual 40, 3) := by decide +kernel
theorem dX0_proved_5 : decode cX0_proved 5 = .ok (.iconst 0, 1) := by decide +kernel
theorem dX0_proved_6 : decode cX0_proved 6 = .ok (.istore_n 2, 1) := by decide +kernel
theorem dX0_proved_7 : decode cX0_proved 7 = .ok (.iconst 0, 1) := by decide +kernel
theorem dX0_proved_8 : decode cX0_proved 8 = .ok (.istore_n 3, 1) := by decide +kernel
theorem dX0_proved_9 : decode cX0_proved 9 = .ok (.iload_n 3, 1) := by decide +kernel
theorem dX0_proved_10 : decode cX0_proved 10 = .ok (.bipush 60, 2) := by decide +kernel
theorem dX0_proved_12 : decode cX0_proved 12 = .ok (.if_icmp .ge 55, 3) := by decide +kernel
theorem dX0_proved_15 : decode cX0_proved 15 = .ok (.aload_n 0, 1) := by decide +kernel
theorem dX0_proved_16 : decode cX0_proved 16 = .ok (.getfield 9, 3) := by decide +kernel
theorem dX0_proved_19 : decode cX0_proved 19 = .ok (.aload_n 1, 1) := by decide +kernel
theorem dX0_proved_20 : decode cX0_proved 20 = .ok (.iload_n 3, 1) := by decide +kernel
theorem dX0_proved_21 : decode cX0_proved 21 = .ok (.invokevirtual 28, 3) := by decide +kernel
theorem dX0_proved_24 : decode cX0_proved 24 = .ok (.iaload, 1) := by decide +kernel
theorem dX0_proved_25 : decode cX0_proved 25 = .ok (.iconst 1, 1) := by decide +kernel
theorem dX0_proved_26 : decode cX0_proved 26 = .ok (.if_icmp .ne 12, 3) := by decide +kernel
theorem dX0_proved_29 : decode cX0_proved 29 = .ok (.iload_n 2, 1) := by decide +kernel
theorem dX0_proved_30 : decode cX0_proved 30 = .ok (.aload_n 0, 1) := by decide +kernel
theorem dX0_proved_31 : decode cX0_proved 31 = .ok (.getfield 15, 3) := by decide +kernel
theorem dX0_proved_34 : decode cX0_proved 34 = .ok (.iload_n 3, 1) := by decide +kernel
theorem dX0_proved_35 : decode cX0_proved 35 = .ok (.iaload, 1) := by decide +kernel
theorem dX0_proved_36 : decode cX0_proved 36 = .ok (.iadd, 1) := by decide +kernel
theorem dX0_proved_37 : decode cX0_proved 37 = .ok (.istore_n 2, 1) := by decide +kernel
theorem dX0_proved_38 : decode cX0_proved 38 = .ok (.aload_n 0, 1) := by decide +kernel
theorem dX0_proved_39 : decode cX0_proved 39 = .ok (.getfield 9, 3) := by decide +kernel
theorem dX0_proved_42 : decode cX0_proved 42 = .ok (.aload_n 1, 1) := by decide +kernel
theorem dX0_proved_43 : decode cX0_proved 43 = .ok (.iload_n 3, 1) := by decide +kernel
theorem dX0_proved_44 : decode cX0_proved 44 = .ok (.invokevirtual 34, 3) := by decide +kernel
theorem dX0_proved_47 : decode cX0_proved 47 = .ok (.iaload, 1) := by decide +kernel
theorem dX0_proved_48 : decode cX0_proved 48 = .ok (.iconst 1, 1) := by decide +kernel
theorem dX0_proved_49 : decode cX0_proved 49 = .ok (.if_icmp .ne 12, 3) := by decide +kernel
theorem dX0_proved_52 : decode cX0_proved 52 = .ok (.iload_n 2, 1) := by decide +kernel
theorem dX0_proved_53 : decode cX0_proved 53 = .ok (.aload_n 0, 1) := by decide +kernel
theorem dX0_proved_54 : decode cX0_proved 54 = .ok (.getfield 15, 3) := by decide +kernel
theorem dX0_proved_57 : decode cX0_proved 57 = .ok (.iload_n 3, 1) := by decide +kernel
theorem dX0_proved_58 : decode cX0_proved 58 = .ok (.iaload, 1) := by decide +kernel
theorem dX0_proved_59 : decode cX0_proved 59 = .ok (.isub, 1) := by decide +kernel
theorem dX0_proved_60 : decode cX0_proved 60 = .ok (.istore_n 2, 1) := by decide +kernel
theorem dX0_proved_61 : decode cX0_proved 61 = .ok (.iinc 3 1, 3) := by decide +kernel
theorem dX0_proved_64 : decode cX0_proved 64 = .ok (.goto (-55), 3) := by decide +kernel
theorem dX0_proved_67 : decode cX0_proved 67 = .ok (.iload_n 2, 1) := by decide +kernel
theorem dX0_proved_68 : decode cX0_proved 68 = .ok (.ireturn, 1) := by decide +kernel
theorem dX0_has_0 : decode cX0_has 0 = .ok (.lload_n 0, 1) := by decide +kernel
theorem dX0_has_1 : decode cX0_has 1 = .ok (.iload_n 2, 1) := by decide +kernel
theorem dX0_has_2 : decode cX0_has 2 = .ok (.lushr, 1) := by decide +kernel
theorem dX0_has_3 : decode cX0_has 3 = .ok (.lconst 1, 1) := by decide +kernel
theorem dX0_has_4 : decode cX0_has 4 = .ok (.land, 1) := by decide +kernel
theorem dX0_has_5 : decode cX0_has 5 = .ok (.lconst 0, 1) := by decide +kernel
theorem dX0_has_6 : decode cX0_has 6 = .ok (.lcmp, 1) := by decide +kernel
theorem dX0_has_7 : decode cX0_has 7 = .ok (.ifCond .eq 7, 3) := by decide +kernel
theorem dX0_has_10 : decode cX0_has 10 = .ok (.iconst 1, 1) := by decide +kernel
theorem dX0_has_11 : decode cX0_has 11 = .ok (.goto 4, 3) := by decide +kernel
theorem dX0_has_14 : decode cX0_has 14 = .ok (.iconst 0, 1) := by decide +kernel
theorem dX0_has_15 : decode cX0_has 15 = .ok (.ireturn, 1) := by decide +kernel
theorem dX0_reached_0 : decode cX0_reached 0 = .ok (.lconst 0, 1) := by decide +kernel
theorem dX0_reached_1 : decode cX0_reached 1 = .ok (.lstore_n 1, 1) := by decide +kernel
theorem dX0_reached_2 : decode cX0_reached 2 = .ok (.iconst 0, 1) := by decide +kernel
theorem dX0_reached_3 : decode cX0_reached 3 = .ok (.istore_n 3, 1) := by decide +kernel
theorem dX0_reached_4 : decode cX0_reached 4 = .ok (.iload_n 3, 1) := by decide +kernel
theorem dX0_reached_5 : decode cX0_reached 5 = .ok (.bipush 36, 2) := by decide +kernel
theorem dX0_reached_7 : decode cX0_reached 7 = .ok (.if_icmp .ge 25, 3) := by decide +kernel
theorem dX0_reached_10 : decode cX0_reached 10 = .ok (.aload_n 0, 1) := by decide +kernel
theorem dX0_reached_11 : decode cX0_reached 11 = .ok (.getfield 18, 3) := by decide +kernel
theorem dX0_reached_14 : decode cX0_reached 14 = .ok (.iload_n 3, 1) := by decide +kernel
theorem dX0_reached_15 : decode cX0_reached 15 = .ok (.iaload, 1) := by decide +kernel
theorem dX0_reached_16 : decode cX0_reached 16 = .ok (.iconst (-1), 1) := by decide +kernel
theorem dX0_reached_17 : decode cX0_reached 17 = .ok (.if_icmp .eq 9, 3) := by decide +kernel
theorem dX0_reached_20 : decode cX0_reached 20 = .ok (.lload_n 1, 1) := by decide +kernel
theorem dX0_reached_21 : decode cX0_reached 21 = .ok (.lconst 1, 1) := by decide +kernel
theorem dX0_reached_22 : decode cX0_reached 22 = .ok (.iload_n 3, 1) := by decide +kernel
theorem dX0_reached_23 : decode cX0_reached 23 = .ok (.lshl, 1) := by decide +kernel
theorem dX0_reached_24 : decode cX0_reached 24 = .ok (.lor, 1) := by decide +kernel
theorem dX0_reached_25 : decode cX0_reached 25 = .ok (.lstore_n 1, 1) := by decide +kernel
theorem dX0_reached_26 : decode cX0_reached 26 = .ok (.iinc 3 1, 3) := by decide +kernel
theorem dX0_reached_29 : decode cX0_reached 29 = .ok (.goto (-25), 3) := by decide +kernel
theorem dX0_reached_32 : decode cX0_reached 32 = .ok (.lload_n 1, 1) := by decide +kernel
theorem dX0_reached_33 : decode cX0_reached 33 = .ok (.lreturn, 1) := by decide +kernel
theorem dX0_fillField_0 : decode cX0_fillField 0 = .ok (.iconst 0, 1) := by decide +kernel
theorem dX0_fillField_1 : decode cX0_fillField 1 = .ok (.istore_n 2, 1) := by decide +kernel
theorem dX0_fillField_2 : decode cX0_fillField 2 = .ok (.iload_n 2, 1) := by decide +kernel
theorem dX0_fillField_3 : decode cX0_fillField 3 = .ok (.bipush 60, 2) := by decide +kernel
theorem dX0_fillField_5 : decode cX0_fillField 5 = .ok (.if_icmp .ge 16, 3) := by decide +kernel
theorem dX0_fillField_8 : decode cX0_fillField 8 = .ok (.aload_n 0, 1) := by decide +kernel
theorem dX0_fillField_9 : decode cX0_fillField 9 = .ok (.getfield 15, 3) := by decide +kernel
theorem dX0_fillField_12 : decode cX0_fillField 12 = .ok (.iload_n 2, 1) := by decide +kernel
theorem dX0_fillField_13 : decode cX0_fillField 13 = .ok (.iconst 0, 1) := by decide +kernel
theorem dX0_fillField_14 : decode cX0_fillField 14 = .ok (.iastore, 1) := by decide +kernel
theorem dX0_fillField_15 : decode cX0_fillField 15 = .ok (.iinc 2 1, 3) := by decide +kernel
theorem dX0_fillField_18 : decode cX0_fillField 18 = .ok (.goto (-16), 3) := by decide +kernel
theorem dX0_fillField_21 : decode cX0_fillField 21 = .ok (.iconst 1, 1) := by decide +kernel
theorem dX0_fillField_22 : decode cX0_fillField 22 = .ok (.istore_n 2, 1) := by decide +kernel
theorem dX0_fillField_23 : decode cX0_fillField 23 = .ok (.iconst 0, 1) := by decide +kernel
theorem dX0_fillField_24 : decode cX0_fillField 24 = .ok (.istore_n 3, 1) := by decide +kernel
theorem dX0_fillField_25 : decode cX0_fillField 25 = .ok (.iload_n 3, 1) := by decide +kernel
theorem dX0_fillField_26 : decode cX0_fillField 26 = .ok (.sipush 4000, 3) := by decide +kernel
theorem dX0_fillField_29 : decode cX0_fillField 29 = .ok (.if_icmp .ge 55, 3) := by decide +kernel
theorem dX0_fillField_32 : decode cX0_fillField 32 = .ok (.iload_n 2, 1) := by decide +kernel
theorem dX0_fillField_33 : decode cX0_fillField 33 = .ok (.ifCond .eq 51, 3) := by decide +kernel
theorem dX0_fillField_36 : decode cX0_fillField 36 = .ok (.aload_n 0, 1) := by decide +kernel
theorem dX0_fillField_37 : decode cX0_fillField 37 = .ok (.aload_n 0, 1) := by decide +kernel
theorem dX0_fillField_38 : decode cX0_fillField 38 = .ok (.aload_n 1, 1) := by decide +kernel
theorem dX0_fillField_39 : decode cX0_fillField 39 = .ok (.iconst 1, 1) := by decide +kernel
theorem dX0_fillField_40 : decode cX0_fillField 40 = .ok (.invokevirtual 44, 3) := by decide +kernel
theorem dX0_fillField_43 : decode cX0_fillField 43 = .ok (.invokevirtual 56, 3) := by decide +kernel
theorem dX0_fillField_46 : decode cX0_fillField 46 = .ok (.istore 4, 2) := by decide +kernel
theorem dX0_fillField_48 : decode cX0_fillField 48 = .ok (.iload 4, 2) := by decide +kernel
theorem dX0_fillField_50 : decode cX0_fillField 50 = .ok (.iconst (-1), 1) := by decide +kernel
theorem dX0_fillField_51 : decode cX0_fillField 51 = .ok (.if_icmp .eq 7, 3) := by decide +kernel
theorem dX0_fillField_54 : decode cX0_fillField 54 = .ok (.iconst 1, 1) := by decide +kernel
theorem dX0_fillField_55 : decode cX0_fillField 55 = .ok (.goto 4, 3) := by decide +kernel
theorem dX0_fillField_58 : decode cX0_fillField 58 = .ok (.iconst 0, 1) := by decide +kernel
theorem dX0_fillField_59 : decode cX0_fillField 59 = .ok (.istore_n 2, 1) := by decide +kernel
theorem dX0_fillField_60 : decode cX0_fillField 60 = .ok (.iload_n 2, 1) := by decide +kernel
theorem dX0_fillField_61 : decode cX0_fillField 61 = .ok (.ifCond .eq 17, 3) := by decide +kernel
theorem dX0_fillField_64 : decode cX0_fillField 64 = .ok (.aload_n 0, 1) := by decide +kernel
theorem dX0_fillField_65 : decode cX0_fillField 65 = .ok (.aload_n 1, 1) := by decide +kernel
theorem dX0_fillField_66 : decode cX0_fillField 66 = .ok (.iload 4, 2) := by decide +kernel
theorem dX0_fillField_68 : decode cX0_fillField 68 = .ok (.aload_n 0, 1) := by decide +kernel
theorem dX0_fillField_69 : decode cX0_fillField 69 = .ok (.aload_n 1, 1) := by decide +kernel
theorem dX0_fillField_70 : decode cX0_fillField 70 = .ok (.iload 4, 2) := by decide +kernel
theorem dX0_fillField_72 : decode cX0_fillField 72 = .ok (.invokevirtual 59, 3) := by decide +kernel
theorem dX0_fillField_75 : decode cX0_fillField 75 = .ok (.invokevirtual 62, 3) := by decide +kernel
theorem dX0_fillField_78 : decode cX0_fillField 78 = .ok (.iinc 3 1, 3) := by decide +kernel
theorem dX0_fillField_81 : decode cX0_fillField 81 = .ok (.goto (-56), 3) := by decide +kernel
theorem dX0_fillField_84 : decode cX0_fillField 84 = .ok (.return_, 1) := by decide +kernel
theorem dX0_search_0 : decode cX0_search 0 = .ok (.iconst 0, 1) := by decide +kernel
theorem dX0_search_1 : decode cX0_search 1 = .ok (.istore_n 3, 1) := by decide +kernel
theorem dX0_search_2 : decode cX0_search 2 = .ok (.iconst 0, 1) := by decide +kernel
theorem dX0_search_3 : decode cX0_search 3 = .ok (.istore 4, 2) := by decide +kernel
theorem dX0_search_5 : decode cX0_search 5 = .ok (.iload 4, 2) := by decide +kernel
theorem dX0_search_7 : decode cX0_search 7 = .ok (.bipush 36, 2) := by decide +kernel
theorem dX0_search_9 : decode cX0_search 9 = .ok (.if_icmp .ge 48, 3) := by decide +kernel
theorem dX0_search_12 : decode cX0_search 12 = .ok (.aload_n 0, 1) := by decide +kernel
theorem dX0_search_13 : decode cX0_search 13 = .ok (.getfield 18, 3) := by decide +kernel
theorem dX0_search_16 : decode cX0_search 16 = .ok (.iload 4, 2) := by decide +kernel
theorem dX0_search_18 : decode cX0_search 18 = .ok (.iconst (-1), 1) := by decide +kernel
theorem dX0_search_19 : decode cX0_search 19 = .ok (.iastore, 1) := by decide +kernel
theorem dX0_search_20 : decode cX0_search 20 = .ok (.aload_n 0, 1) := by decide +kernel
theorem dX0_search_21 : decode cX0_search 21 = .ok (.getfield 9, 3) := by decide +kernel
theorem dX0_search_24 : decode cX0_search 24 = .ok (.iload 4, 2) := by decide +kernel
theorem dX0_search_26 : decode cX0_search 26 = .ok (.iaload, 1) := by decide +kernel
theorem dX0_search_27 : decode cX0_search 27 = .ok (.iload_n 2, 1) := by decide +kernel
theorem dX0_search_28 : decode cX0_search 28 = .ok (.if_icmp .ne 23, 3) := by decide +kernel
theorem dX0_search_31 : decode cX0_search 31 = .ok (.aload_n 0, 1) := by decide +kernel
theorem dX0_search_32 : decode cX0_search 32 = .ok (.getfield 18, 3) := by decide +kernel
theorem dX0_search_35 : decode cX0_search 35 = .ok (.iload 4, 2) := by decide +kernel
theorem dX0_search_37 : decode cX0_search 37 = .ok (.bipush (-2), 2) := by decide +kernel
theorem dX0_search_39 : decode cX0_search 39 = .ok (.iastore, 1) := by decide +kernel
theorem dX0_search_40 : decode cX0_search 40 = .ok (.aload_n 0, 1) := by decide +kernel
theorem dX0_search_41 : decode cX0_search 41 = .ok (.getfield 21, 3) := by decide +kernel
theorem dX0_search_44 : decode cX0_search 44 = .ok (.iload_n 3, 1) := by decide +kernel
theorem dX0_search_45 : decode cX0_search 45 = .ok (.iload 4, 2) := by decide +kernel
theorem dX0_search_47 : decode cX0_search 47 = .ok (.iastore, 1) := by decide +kernel
theorem dX0_search_48 : decode cX0_search 48 = .ok (.iinc 3 1, 3) := by decide +kernel
theorem dX0_search_51 : decode cX0_search 51 = .ok (.iinc 4 1, 3) := by decide +kernel
theorem dX0_search_54 : decode cX0_search 54 = .ok (.goto (-49), 3) := by decide +kernel
theorem dX0_search_57 : decode cX0_search 57 = .ok (.iconst 0, 1) := by decide +kernel
theorem dX0_search_58 : decode cX0_search 58 = .ok (.istore 4, 2) := by decide +kernel
theorem dX0_search_60 : decode cX0_search 60 = .ok (.iload 4, 2) := by decide +kernel
theorem dX0_search_62 : decode cX0_search 62 = .ok (.bipush 36, 2) := by decide +kernel
theorem dX0_search_64 : decode cX0_search 64 = .ok (.if_icmp .ge 30, 3) := by decide +kernel
theorem dX0_search_67 : decode cX0_search 67 = .ok (.iload 4, 2) := by decide +kernel
theorem dX0_search_69 : decode cX0_search 69 = .ok (.iload_n 3, 1) := by decide +kernel
theorem dX0_search_70 : decode cX0_search 70 = .ok (.if_icmp .ge 24, 3) := by decide +kernel
theorem dX0_search_73 : decode cX0_search 73 = .ok (.aload_n 0, 1) := by decide +kernel
theorem dX0_search_74 : decode cX0_search 74 = .ok (.aload_n 1, 1) := by decide +kernel
theorem dX0_search_75 : decode cX0_search 75 = .ok (.iload_n 2, 1) := by decide +kernel
theorem dX0_search_76 : decode cX0_search 76 = .ok (.aload_n 0, 1) := by decide +kernel
theorem dX0_search_77 : decode cX0_search 77 = .ok (.getfield 21, 3) := by decide +kernel
theorem dX0_search_80 : decode cX0_search 80 = .ok (.iload 4, 2) := by decide +kernel
theorem dX0_search_82 : decode cX0_search 82 = .ok (.iaload, 1) := by decide +kernel
theorem dX0_search_83 : decode cX0_search 83 = .ok (.iload_n 3, 1) := by decide +kernel
theorem dX0_search_84 : decode cX0_search 84 = .ok (.invokevirtual 66, 3) := by decide +kernel
theorem dX0_search_87 : decode cX0_search 87 = .ok (.istore_n 3, 1) := by decide +kernel
theorem dX0_search_88 : decode cX0_search 88 = .ok (.iinc 4 1, 3) := by decide +kernel
theorem dX0_search_91 : decode cX0_search 91 = .ok (.goto (-31), 3) := by decide +kernel
theorem dX0_search_94 : decode cX0_search 94 = .ok (.iload_n 3, 1) := by decide +kernel
theorem dX0_search_95 : decode cX0_search 95 = .ok (.ireturn, 1) := by decide +kernel
theorem dX0_searchBeside_0 : decode cX0_searchBeside 0 = .ok (.iload 4, 2) := by decide +kernel
theorem dX0_searchBeside_2 : decode cX0_searchBeside 2 = .ok (.istore 5, 2) := by decide +kernel
theorem dX0_searchBeside_4 : decode cX0_searchBeside 4 = .ok (.iconst 0, 1) := by decide +kernel
theorem dX0_searchBeside_5 : decode cX0_searchBeside 5 = .ok (.istore 6, 2) := by decide +kernel
theorem dX0_searchBeside_7 : decode cX0_searchBeside 7 = .ok (.iload 6, 2) := by decide +kernel
theorem dX0_searchBeside_9 : decode cX0_searchBeside 9 = .ok (.iconst 4, 1) := by decide +kernel
theorem dX0_searchBeside_10 : decode cX0_searchBeside 10 = .ok (.if_icmp .ge 97, 3) := by decide +kernel
theorem dX0_searchBeside_13 : decode cX0_searchBeside 13 = .ok (.aload_n 1, 1) := by decide +kernel
theorem dX0_searchBeside_14 : decode cX0_searchBeside 14 = .ok (.iload_n 3, 1) := by decide +kernel
theorem dX0_searchBeside_15 : decode cX0_searchBeside 15 = .ok (.iload 6, 2) := by decide +kernel
theorem dX0_searchBeside_17 : decode cX0_searchBeside 17 = .ok (.invokevirtual 70, 3) := by decide +kernel
theorem dX0_searchBeside_20 : decode cX0_searchBeside 20 = .ok (.istore 7, 2) := by decide +kernel
theorem dX0_searchBeside_22 : decode cX0_searchBeside 22 = .ok (.iload 7, 2) := by decide +kernel
theorem dX0_searchBeside_24 : decode cX0_searchBeside 24 = .ok (.iconst (-1), 1) := by decide +kernel
theorem dX0_searchBeside_25 : decode cX0_searchBeside 25 = .ok (.if_icmp .eq 76, 3) := by decide +kernel
theorem dX0_searchBeside_28 : decode cX0_searchBeside 28 = .ok (.aload_n 1, 1) := by decide +kernel
theorem dX0_searchBeside_29 : decode cX0_searchBeside 29 = .ok (.iload 7, 2) := by decide +kernel
theorem dX0_searchBeside_31 : decode cX0_searchBeside 31 = .ok (.iload_n 3, 1) := by decide +kernel
theorem dX0_searchBeside_32 : decode cX0_searchBeside 32 = .ok (.invokevirtual 74, 3) := by decide +kernel
theorem dX0_searchBeside_35 : decode cX0_searchBeside 35 = .ok (.istore 8, 2) := by decide +kernel
theorem dX0_searchBeside_37 : decode cX0_searchBeside 37 = .ok (.aload_n 0, 1) := by decide +kernel
theorem dX0_searchBeside_38 : decode cX0_searchBeside 38 = .ok (.aload_n 1, 1) := by decide +kernel
theorem dX0_searchBeside_39 : decode cX0_searchBeside 39 = .ok (.iload 7, 2) := by decide +kernel
theorem dX0_searchBeside_41 : decode cX0_searchBeside 41 = .ok (.iload_n 2, 1) := by decide +kernel
theorem dX0_searchBeside_42 : decode cX0_searchBeside 42 = .ok (.iconst 1, 1) := by decide +kernel
theorem dX0_searchBeside_43 : decode cX0_searchBeside 43 = .ok (.if_icmp .ne 7, 3) := by decide +kernel
theorem dX0_searchBeside_46 : decode cX0_searchBeside 46 = .ok (.iload_n 3, 1) := by decide +kernel
theorem dX0_searchBeside_47 : decode cX0_searchBeside 47 = .ok (.goto 5, 3) := by decide +kernel
theorem dX0_searchBeside_50 : decode cX0_searchBeside 50 = .ok (.iload 8, 2) := by decide +kernel
theorem dX0_searchBeside_52 : decode cX0_searchBeside 52 = .ok (.invokevirtual 77, 3) := by decide +kernel
theorem dX0_searchBeside_55 : decode cX0_searchBeside 55 = .ok (.istore 9, 2) := by decide +kernel
theorem dX0_searchBeside_57 : decode cX0_searchBeside 57 = .ok (.aload_n 0, 1) := by decide +kernel
theorem dX0_searchBeside_58 : decode cX0_searchBeside 58 = .ok (.getfield 18, 3) := by decide +kernel
theorem dX0_searchBeside_61 : decode cX0_searchBeside 61 = .ok (.iload 8, 2) := by decide +kernel
theorem dX0_searchBeside_63 : decode cX0_searchBeside 63 = .ok (.iaload, 1) := by decide +kernel
theorem dX0_searchBeside_64 : decode cX0_searchBeside 64 = .ok (.iconst (-1), 1) := by decide +kernel
theorem dX0_searchBeside_65 : decode cX0_searchBeside 65 = .ok (.if_icmp .ne 36, 3) := by decide +kernel
theorem dX0_searchBeside_68 : decode cX0_searchBeside 68 = .ok (.iload 9, 2) := by decide +kernel
theorem dX0_searchBeside_70 : decode cX0_searchBeside 70 = .ok (.ifCond .le 31, 3) := by decide +kernel
theorem dX0_searchBeside_73 : decode cX0_searchBeside 73 = .ok (.iload 5, 2) := by decide +kernel
theorem dX0_searchBeside_75 : decode cX0_searchBeside 75 = .ok (.bipush 36, 2) := by decide +kernel
theorem dX0_searchBeside_77 : decode cX0_searchBeside 77 = .ok (.if_icmp .ge 24, 3) := by decide +kernel
theorem dX0_searchBeside_80 : decode cX0_searchBeside 80 = .ok (.aload_n 0, 1) := by decide +kernel
theorem dX0_searchBeside_81 : decode cX0_searchBeside 81 = .ok (.getfield 18, 3) := by decide +kernel
theorem dX0_searchBeside_84 : decode cX0_searchBeside 84 = .ok (.iload 8, 2) := by decide +kernel
theorem dX0_searchBeside_86 : decode cX0_searchBeside 86 = .ok (.iload 7, 2) := by decide +kernel
theorem dX0_searchBeside_88 : decode cX0_searchBeside 88 = .ok (.iastore, 1) := by decide +kernel
theorem dX0_searchBeside_89 : decode cX0_searchBeside 89 = .ok (.aload_n 0, 1) := by decide +kernel
theorem dX0_searchBeside_90 : decode cX0_searchBeside 90 = .ok (.getfield 21, 3) := by decide +kernel
theorem dX0_searchBeside_93 : decode cX0_searchBeside 93 = .ok (.iload 5, 2) := by decide +kernel
theorem dX0_searchBeside_95 : decode cX0_searchBeside 95 = .ok (.iload 8, 2) := by decide +kernel
theorem dX0_searchBeside_97 : decode cX0_searchBeside 97 = .ok (.iastore, 1) := by decide +kernel
theorem dX0_searchBeside_98 : decode cX0_searchBeside 98 = .ok (.iinc 5 1, 3) := by decide +kernel
theorem dX0_searchBeside_101 : decode cX0_searchBeside 101 = .ok (.iinc 6 1, 3) := by decide +kernel
theorem dX0_searchBeside_104 : decode cX0_searchBeside 104 = .ok (.goto (-97), 3) := by decide +kernel
theorem dX0_searchBeside_107 : decode cX0_searchBeside 107 = .ok (.iload 5, 2) := by decide +kernel
theorem dX0_searchBeside_109 : decode cX0_searchBeside 109 = .ok (.ireturn, 1) := by decide +kernel
theorem dX0_leftFrom_0 : decode cX0_leftFrom 0 = .ok (.aload_n 1, 1) := by decide +kernel
theorem dX0_leftFrom_1 : decode cX0_leftFrom 1 = .ok (.iload_n 2, 1) := by decide +kernel
theorem dX0_leftFrom_2 : decode cX0_leftFrom 2 = .ok (.invokevirtual 37, 3) := by decide +kernel
theorem dX0_leftFrom_5 : decode cX0_leftFrom 5 = .ok (.iload_n 3, 1) := by decide +kernel
theorem dX0_leftFrom_6 : decode cX0_leftFrom 6 = .ok (.aload_n 1, 1) := by decide +kernel
theorem dX0_leftFrom_7 : decode cX0_leftFrom 7 = .ok (.iload_n 2, 1) := by decide +kernel
theorem dX0_leftFrom_8 : decode cX0_leftFrom 8 = .ok (.invokevirtual 28, 3) := by decide +kernel
theorem dX0_leftFrom_11 : decode cX0_leftFrom 11 = .ok (.if_icmp .ne 13, 3) := by decide +kernel
theorem dX0_leftFrom_14 : decode cX0_leftFrom 14 = .ok (.aload_n 0, 1) := by decide +kernel
theorem dX0_leftFrom_15 : decode cX0_leftFrom 15 = .ok (.getfield 15, 3) := by decide +kernel
theorem dX0_leftFrom_18 : decode cX0_leftFrom 18 = .ok (.iload_n 2, 1) := by decide +kernel
theorem dX0_leftFrom_19 : decode cX0_leftFrom 19 = .ok (.iaload, 1) := by decide +kernel
theorem dX0_leftFrom_20 : decode cX0_leftFrom 20 = .ok (.ineg, 1) := by decide +kernel
theorem dX0_leftFrom_21 : decode cX0_leftFrom 21 = .ok (.goto 9, 3) := by decide +kernel
theorem dX0_leftFrom_24 : decode cX0_leftFrom 24 = .ok (.aload_n 0, 1) := by decide +kernel
theorem dX0_leftFrom_25 : decode cX0_leftFrom 25 = .ok (.getfield 15, 3) := by decide +kernel
theorem dX0_leftFrom_28 : decode cX0_leftFrom 28 = .ok (.iload_n 2, 1) := by decide +kernel
theorem dX0_leftFrom_29 : decode cX0_leftFrom 29 = .ok (.iaload, 1) := by decide +kernel
theorem dX0_leftFrom_30 : decode cX0_leftFrom 30 = .ok (.iadd, 1) := by decide +kernel
theorem dX0_leftFrom_31 : decode cX0_leftFrom 31 = .ok (.ireturn, 1) := by decide +kernel
theorem dX0_nearestOutside_0 : decode cX0_nearestOutside 0 = .ok (.iconst 0, 1) := by decide +kernel
theorem dX0_nearestOutside_1 : decode cX0_nearestOutside 1 = .ok (.istore_n 2, 1) := by decide +kernel
theorem dX0_nearestOutside_2 : decode cX0_nearestOutside 2 = .ok (.iload_n 2, 1) := by decide +kernel
theorem dX0_nearestOutside_3 : decode cX0_nearestOutside 3 = .ok (.bipush 36, 2) := by decide +kernel
theorem dX0_nearestOutside_5 : decode cX0_nearestOutside 5 = .ok (.if_icmp .ge 36, 3) := by decide +kernel
theorem dX0_nearestOutside_8 : decode cX0_nearestOutside 8 = .ok (.iload_n 2, 1) := by decide +kernel
theorem dX0_nearestOutside_9 : decode cX0_nearestOutside 9 = .ok (.iload_n 1, 1) := by decide +kernel
theorem dX0_nearestOutside_10 : decode cX0_nearestOutside 10 = .ok (.if_icmp .ge 31, 3) := by decide +kernel
theorem dX0_nearestOutside_13 : decode cX0_nearestOutside 13 = .ok (.aload_n 0, 1) := by decide +kernel
theorem dX0_nearestOutside_14 : decode cX0_nearestOutside 14 = .ok (.getfield 9, 3) := by decide +kernel
theorem dX0_nearestOutside_17 : decode cX0_nearestOutside 17 = .ok (.aload_n 0, 1) := by decide +kernel
theorem dX0_nearestOutside_18 : decode cX0_nearestOutside 18 = .ok (.getfield 21, 3) := by decide +kernel
theorem dX0_nearestOutside_21 : decode cX0_nearestOutside 21 = .ok (.iload_n 2, 1) := by decide +kernel
theorem dX0_nearestOutside_22 : decode cX0_nearestOutside 22 = .ok (.iaload, 1) := by decide +kernel
theorem dX0_nearestOutside_23 : decode cX0_nearestOutside 23 = .ok (.iaload, 1) := by decide +kernel
theorem dX0_nearestOutside_24 : decode cX0_nearestOutside 24 = .ok (.iconst 2, 1) := by decide +kernel
theorem dX0_nearestOutside_25 : decode cX0_nearestOutside 25 = .ok (.if_icmp .ne 10, 3) := by decide +kernel
theorem dX0_nearestOutside_28 : decode cX0_nearestOutside 28 = .ok (.aload_n 0, 1) := by decide +kernel
theorem dX0_nearestOutside_29 : decode cX0_nearestOutside 29 = .ok (.getfield 21, 3) := by decide +kernel
theorem dX0_nearestOutside_32 : decode cX0_nearestOutside 32 = .ok (.iload_n 2, 1) := by decide +kernel
theorem dX0_nearestOutside_33 : decode cX0_nearestOutside 33 = .ok (.iaload, 1) := by decide +kernel
theorem dX0_nearestOutside_34 : decode cX0_nearestOutside 34 = .ok (.ireturn, 1) := by decide +kernel
theorem dX0_nearestOutside_35 : decode cX0_nearestOutside 35 = .ok (.iinc 2 1, 3) := by decide +kernel
theorem dX0_nearestOutside_38 : decode cX0_nearestOutside 38 = .ok (.goto (-36), 3) := by decide +kernel
theorem dX0_nearestOutside_41 : decode cX0_nearestOutside 41 = .ok (.iconst (-1), 1) := by decide +kernel
theorem dX0_nearestOutside_42 : decode cX0_nearestOutside 42 = .ok (.ireturn, 1) := by decide +kernel
theorem dX0_mostAlong_0 : decode cX0_mostAlong 0 = .ok (.ldc 81, 2) := by decide +kernel
theorem dX0_mostAlong_2 : decode cX0_mostAlong 2 = .ok (.istore_n 3, 1) := by decide +kernel
theorem dX0_mostAlong_3 : decode cX0_mostAlong 3 = .ok (.iload_n 2, 1) := by decide +kernel
theorem dX0_mostAlong_4 : decode cX0_mostAlong 4 = .ok (.istore 4, 2) := by decide +kernel
theorem dX0_mostAlong_6 : decode cX0_mostAlong 6 = .ok (.iconst 0, 1) := by decide +kernel
theorem dX0_mostAlong_7 : decode cX0_mostAlong 7 = .ok (.istore 5, 2) := by decide +kernel
theorem dX0_mostAlong_9 : decode cX0_mostAlong 9 = .ok (.iload 5, 2) := by decide +kernel
theorem dX0_mostAlong_11 : decode cX0_mostAlong 11 = .ok (.bipush 36, 2) := by decide +kernel
theorem dX0_mostAlong_13 : decode cX0_mostAlong 13 = .ok (.if_icmp .ge 52, 3) := by decide +kernel
theorem dX0_mostAlong_16 : decode cX0_mostAlong 16 = .ok (.aload_n 0, 1) := by decide +kernel
theorem dX0_mostAlong_17 : decode cX0_mostAlong 17 = .ok (.getfield 18, 3) := by decide +kernel
theorem dX0_mostAlong_20 : decode cX0_mostAlong 20 = .ok (.iload 4, 2) := by decide +kernel
theorem dX0_mostAlong_22 : decode cX0_mostAlong 22 = .ok (.iaload, 1) := by decide +kernel
theorem dX0_mostAlong_23 : decode cX0_mostAlong 23 = .ok (.ifCond .lt 42, 3) := by decide +kernel
theorem dX0_mostAlong_26 : decode cX0_mostAlong 26 = .ok (.aload_n 0, 1) := by decide +kernel
theorem dX0_mostAlong_27 : decode cX0_mostAlong 27 = .ok (.getfield 18, 3) := by decide +kernel
theorem dX0_mostAlong_30 : decode cX0_mostAlong 30 = .ok (.iload 4, 2) := by decide +kernel
theorem dX0_mostAlong_32 : decode cX0_mostAlong 32 = .ok (.iaload, 1) := by decide +kernel
theorem dX0_mostAlong_33 : decode cX0_mostAlong 33 = .ok (.istore 6, 2) := by decide +kernel
theorem dX0_mostAlong_35 : decode cX0_mostAlong 35 = .ok (.aload_n 1, 1) := by decide +kernel
theorem dX0_mostAlong_36 : decode cX0_mostAlong 36 = .ok (.iload 6, 2) := by decide +kernel
theorem dX0_mostAlong_38 : decode cX0_mostAlong 38 = .ok (.iload 4, 2) := by decide +kernel
theorem dX0_mostAlong_40 : decode cX0_mostAlong 40 = .ok (.invokevirtual 74, 3) := by decide +kernel
theorem dX0_mostAlong_43 : decode cX0_mostAlong 43 = .ok (.istore 4, 2) := by decide +kernel
theorem dX0_mostAlong_45 : decode cX0_mostAlong 45 = .ok (.iload_n 3, 1) := by decide +kernel
theorem dX0_mostAlong_46 : decode cX0_mostAlong 46 = .ok (.aload_n 0, 1) := by decide +kernel
theorem dX0_mostAlong_47 : decode cX0_mostAlong 47 = .ok (.aload_n 1, 1) := by decide +kernel
theorem dX0_mostAlong_48 : decode cX0_mostAlong 48 = .ok (.iload 6, 2) := by decide +kernel
theorem dX0_mostAlong_50 : decode cX0_mostAlong 50 = .ok (.iload 4, 2) := by decide +kernel
theorem dX0_mostAlong_52 : decode cX0_mostAlong 52 = .ok (.invokevirtual 77, 3) := by decide +kernel
theorem dX0_mostAlong_55 : decode cX0_mostAlong 55 = .ok (.invokestatic 82, 3) := by decide +kernel
theorem dX0_mostAlong_58 : decode cX0_mostAlong 58 = .ok (.istore_n 3, 1) := by decide +kernel
theorem dX0_mostAlong_59 : decode cX0_mostAlong 59 = .ok (.iinc 5 1, 3) := by decide +kernel
theorem dX0_mostAlong_62 : decode cX0_mostAlong 62 = .ok (.goto (-53), 3) := by decide +kernel
theorem dX0_mostAlong_65 : decode cX0_mostAlong 65 = .ok (.iload_n 3, 1) := by decide +kernel
theorem dX0_mostAlong_66 : decode cX0_mostAlong 66 = .ok (.ireturn, 1) := by decide +kernel
theorem dX0_push_0 : decode cX0_push 0 = .ok (.iload_n 2, 1) := by decide +kernel
theorem dX0_push_1 : decode cX0_push 1 = .ok (.istore 4, 2) := by decide +kernel
theorem dX0_push_3 : decode cX0_push 3 = .ok (.iconst 0, 1) := by decide +kernel
theorem dX0_push_4 : decode cX0_push 4 = .ok (.istore 5, 2) := by decide +kernel
theorem dX0_push_6 : decode cX0_push 6 = .ok (.iload 5, 2) := by decide +kernel
theorem dX0_push_8 : decode cX0_push 8 = .ok (.bipush 36, 2) := by decide +kernel
theorem dX0_push_10 : decode cX0_push 10 = .ok (.if_icmp .ge 65, 3) := by decide +kernel
theorem dX0_push_13 : decode cX0_push 13 = .ok (.aload_n 0, 1) := by decide +kernel
theorem dX0_push_14 : decode cX0_push 14 = .ok (.getfield 18, 3) := by decide +kernel
theorem dX0_push_17 : decode cX0_push 17 = .ok (.iload 4, 2) := by decide +kernel
theorem dX0_push_19 : decode cX0_push 19 = .ok (.iaload, 1) := by decide +kernel
theorem dX0_push_20 : decode cX0_push 20 = .ok (.ifCond .lt 55, 3) := by decide +kernel
theorem dX0_push_23 : decode cX0_push 23 = .ok (.aload_n 0, 1) := by decide +kernel
theorem dX0_push_24 : decode cX0_push 24 = .ok (.getfield 18, 3) := by decide +kernel
theorem dX0_push_27 : decode cX0_push 27 = .ok (.iload 4, 2) := by decide +kernel
theorem dX0_push_29 : decode cX0_push 29 = .ok (.iaload, 1) := by decide +kernel
theorem dX0_push_30 : decode cX0_push 30 = .ok (.istore 6, 2) := by decide +kernel
theorem dX0_push_32 : decode cX0_push 32 = .ok (.aload_n 1, 1) := by decide +kernel
theorem dX0_push_33 : decode cX0_push 33 = .ok (.iload 6, 2) := by decide +kernel
theorem dX0_push_35 : decode cX0_push 35 = .ok (.iload 4, 2) := by decide +kernel
theorem dX0_push_37 : decode cX0_push 37 = .ok (.invokevirtual 74, 3) := by decide +kernel
theorem dX0_push_40 : decode cX0_push 40 = .ok (.istore 4, 2) := by decide +kernel
theorem dX0_push_42 : decode cX0_push 42 = .ok (.aload_n 0, 1) := by decide +kernel
theorem dX0_push_43 : decode cX0_push 43 = .ok (.getfield 15, 3) := by decide +kernel
theorem dX0_push_46 : decode cX0_push 46 = .ok (.iload 6, 2) := by decide +kernel
theorem dX0_push_48 : decode cX0_push 48 = .ok (.dup2, 1) := by decide +kernel
theorem dX0_push_49 : decode cX0_push 49 = .ok (.iaload, 1) := by decide +kernel
theorem dX0_push_50 : decode cX0_push 50 = .ok (.iload 4, 2) := by decide +kernel
theorem dX0_push_52 : decode cX0_push 52 = .ok (.aload_n 1, 1) := by decide +kernel
theorem dX0_push_53 : decode cX0_push 53 = .ok (.iload 6, 2) := by decide +kernel
theorem dX0_push_55 : decode cX0_push 55 = .ok (.invokevirtual 28, 3) := by decide +kernel
theorem dX0_push_58 : decode cX0_push 58 = .ok (.if_icmp .ne 7, 3) := by decide +kernel
theorem dX0_push_61 : decode cX0_push 61 = .ok (.iload_n 3, 1) := by decide +kernel
theorem dX0_push_62 : decode cX0_push 62 = .ok (.goto 5, 3) := by decide +kernel
theorem dX0_push_65 : decode cX0_push 65 = .ok (.iload_n 3, 1) := by decide +kernel
theorem dX0_push_66 : decode cX0_push 66 = .ok (.ineg, 1) := by decide +kernel
theorem dX0_push_67 : decode cX0_push 67 = .ok (.iadd, 1) := by decide +kernel
theorem dX0_push_68 : decode cX0_push 68 = .ok (.iastore, 1) := by decide +kernel
theorem dX0_push_69 : decode cX0_push 69 = .ok (.iinc 5 1, 3) := by decide +kernel
theorem dX0_push_72 : decode cX0_push 72 = .ok (.goto (-66), 3) := by decide +kernel
theorem dX0_push_75 : decode cX0_push 75 = .ok (.return_, 1) := by decide +kernel
theorem dX1_init_0 : decode cX1_init 0 = .ok (.aload_n 0, 1) := by decide +kernel
theorem dX1_init_1 : decode cX1_init 1 = .ok (.invokespecial 3, 3) := by decide +kernel
theorem dX1_init_4 : decode cX1_init 4 = .ok (.aload_n 0, 1) := by decide +kernel
theorem dX1_init_5 : decode cX1_init 5 = .ok (.bipush 36, 2) := by decide +kernel
theorem dX1_init_7 : decode cX1_init 7 = .ok (.newarray .int, 2) := by decide +kernel
theorem dX1_init_9 : decode cX1_init 9 = .ok (.putfield 9, 3) := by decide +kernel
theorem dX1_init_12 : decode cX1_init 12 = .ok (.aload_n 0, 1) := by decide +kernel
theorem dX1_init_13 : decode cX1_init 13 = .ok (.bipush 36, 2) := by decide +kernel
theorem dX1_init_15 : decode cX1_init 15 = .ok (.newarray .int, 2) := by decide +kernel
theorem dX1_init_17 : decode cX1_init 17 = .ok (.putfield 15, 3) := by decide +kernel
theorem dX1_init_20 : decode cX1_init 20 = .ok (.aload_n 0, 1) := by decide +kernel
theorem dX1_init_21 : decode cX1_init 21 = .ok (.bipush 8, 2) := by decide +kernel
theorem dX1_init_23 : decode cX1_init 23 = .ok (.newarray .boolean, 2) := by decide +kernel
theorem dX1_init_25 : decode cX1_init 25 = .ok (.putfield 18, 3) := by decide +kernel
theorem dX1_init_28 : decode cX1_init 28 = .ok (.aload_n 0, 1) := by decide +kernel
theorem dX1_init_29 : decode cX1_init 29 = .ok (.bipush 36, 2) := by decide +kernel
theorem dX1_init_31 : decode cX1_init 31 = .ok (.newarray .boolean, 2) := by decide +kernel
theorem dX1_init_33 : decode cX1_init 33 = .ok (.putfield 22, 3) := by decide +kernel
theorem dX1_init_36 : decode cX1_init 36 = .ok (.aload_n 0, 1) := by decide +kernel
theorem dX1_init_37 : decode cX1_init 37 = .ok (.bipush 36, 2) := by decide +kernel
theorem dX1_init_39 : decode cX1_init 39 = .ok (.newarray .int, 2) := by decide +kernel
theorem dX1_init_41 : decode cX1_init 41 = .ok (.putfield 25, 3) := by decide +kernel
theorem dX1_init_44 : decode cX1_init 44 = .ok (.aload_n 0, 1) := by decide +kernel
theorem dX1_init_45 : decode cX1_init 45 = .ok (.iconst 0, 1) := by decide +kernel
theorem dX1_init_46 : decode cX1_init 46 = .ok (.putfield 28, 3) := by decide +kernel
theorem dX1_init_49 : decode cX1_init 49 = .ok (.aload_n 0, 1) := by decide +kernel
theorem dX1_init_50 : decode cX1_init 50 = .ok (.iconst 0, 1) := by decide +kernel
theorem dX1_init_51 : decode cX1_init 51 = .ok (.putfield 32, 3) := by decide +kernel
theorem dX1_init_54 : decode cX1_init 54 = .ok (.return_, 1) := by decide +kernel
theorem dX1_ownerOf_0 : decode cX1_ownerOf 0 = .ok (.aload_n 0, 1) := by decide +kernel
theorem dX1_ownerOf_1 : decode cX1_ownerOf 1 = .ok (.getfield 9, 3) := by decide +kernel
theorem dX1_ownerOf_4 : decode cX1_ownerOf 4 = .ok (.iload_n 1, 1) := by decide +kernel
theorem dX1_ownerOf_5 : decode cX1_ownerOf 5 = .ok (.iaload, 1) := by decide +kernel
theorem dX1_ownerOf_6 : decode cX1_ownerOf 6 = .ok (.ireturn, 1) := by decide +kernel
theorem dX1_isHeld_0 : decode cX1_isHeld 0 = .ok (.aload_n 0, 1) := by decide +kernel
theorem dX1_isHeld_1 : decode cX1_isHeld 1 = .ok (.getfield 18, 3) := by decide +kernel
theorem dX1_isHeld_4 : decode cX1_isHeld 4 = .ok (.iload_n 1, 1) := by decide +kernel
theorem dX1_isHeld_5 : decode cX1_isHeld 5 = .ok (.baload, 1) := by decide +kernel
theorem dX1_isHeld_6 : decode cX1_isHeld 6 = .ok (.ireturn, 1) := by decide +kernel
theorem dX1_workDone_0 : decode cX1_workDone 0 = .ok (.aload_n 0, 1) := by decide +kernel
theorem dX1_workDone_1 : decode cX1_workDone 1 = .ok (.getfield 28, 3) := by decide +kernel
theorem dX1_workDone_4 : decode cX1_workDone 4 = .ok (.ireturn, 1) := by decide +kernel
theorem dX1_energyLost_0 : decode cX1_energyLost 0 = .ok (.aload_n 0, 1) := by decide +kernel
theorem dX1_energyLost_1 : decode cX1_energyLost 1 = .ok (.getfield 32, 3) := by decide +kernel
theorem dX1_energyLost_4 : decode cX1_energyLost 4 = .ok (.ireturn, 1) := by decide +kernel
theorem dX1_addWork_0 : decode cX1_addWork 0 = .ok (.aload_n 0, 1) := by decide +kernel
theorem dX1_addWork_1 : decode cX1_addWork 1 = .ok (.dup, 1) := by decide +kernel
theorem dX1_addWork_2 : decode cX1_addWork 2 = .ok (.getfield 28, 3) := by decide +kernel
theorem dX1_addWork_5 : decode cX1_addWork 5 = .ok (.iload_n 1, 1) := by decide +kernel
theorem dX1_addWork_6 : decode cX1_addWork 6 = .ok (.iadd, 1) := by decide +kernel
theorem dX1_addWork_7 : decode cX1_addWork 7 = .ok (.putfield 28, 3) := by decide +kernel
theorem dX1_addWork_10 : decode cX1_addWork 10 = .ok (.return_, 1) := by decide +kernel
theorem dX1_energyNow_0 : decode cX1_energyNow 0 = .ok (.aload_n 1, 1) := by decide +kernel
theorem dX1_energyNow_1 : decode cX1_energyNow 1 = .ok (.aload_n 0, 1) := by decide +kernel
theorem dX1_energyNow_2 : decode cX1_energyNow 2 = .ok (.getfield 9, 3) := by decide +kernel
theorem dX1_energyNow_5 : decode cX1_energyNow 5 = .ok (.invokestatic 35, 3) := by decide +kernel
theorem dX1_energyNow_8 : decode cX1_energyNow 8 = .ok (.ireturn, 1) := by decide +kernel
theorem dX1_energyOf_0 : decode cX1_energyOf 0 = .ok (.iconst 0, 1) := by decide +kernel
theorem dX1_energyOf_1 : decode cX1_energyOf 1 = .ok (.istore_n 2, 1) := by decide +kernel
theorem dX1_energyOf_2 : decode cX1_energyOf 2 = .ok (.iconst 0, 1) := by decide +kernel
theorem dX1_energyOf_3 : decode cX1_energyOf 3 = .ok (.istore_n 3, 1) := by decide +kernel
theorem dX1_energyOf_4 : decode cX1_energyOf 4 = .ok (.iload_n 3, 1) := by decide +kernel
theorem dX1_energyOf_5 : decode cX1_energyOf 5 = .ok (.bipush 60, 2) := by decide +kernel
theorem dX1_energyOf_7 : decode cX1_energyOf 7 = .ok (.if_icmp .ge 34, 3) := by decide +kernel
theorem dX1_energyOf_10 : decode cX1_energyOf 10 = .ok (.aload_n 1, 1) := by decide +kernel
theorem dX1_energyOf_11 : decode cX1_energyOf 11 = .ok (.aload_n 0, 1) := by decide +kernel
theorem dX1_energyOf_12 : decode cX1_energyOf 12 = .ok (.iload_n 3, 1) := by decide +kernel
theorem dX1_energyOf_13 : decode cX1_energyOf 13 = .ok (.invokevirtual 39, 3) := by decide +kernel
theorem dX1_energyOf_16 : decode cX1_energyOf 16 = .ok (.iaload, 1) := by decide +kernel
theorem dX1_energyOf_17 : decode cX1_energyOf 17 = .ok (.aload_n 1, 1) := by decide +kernel
theorem dX1_energyOf_18 : decode cX1_energyOf 18 = .ok (.aload_n 0, 1) := by decide +kernel
theorem dX1_energyOf_19 : decode cX1_energyOf 19 = .ok (.iload_n 3, 1) := by decide +kernel
theorem dX1_energyOf_20 : decode cX1_energyOf 20 = .ok (.invokevirtual 45, 3) := by decide +kernel
theorem dX1_energyOf_23 : decode cX1_energyOf 23 = .ok (.iaload, 1) := by decide +kernel
theorem dX1_energyOf_24 : decode cX1_energyOf 24 = .ok (.if_icmp .eq 11, 3) := by decide +kernel
theorem dX1_energyOf_27 : decode cX1_energyOf 27 = .ok (.iload_n 2, 1) := by decide +kernel
theorem dX1_energyOf_28 : decode cX1_energyOf 28 = .ok (.aload_n 0, 1) := by decide +kernel
theorem dX1_energyOf_29 : decode cX1_energyOf 29 = .ok (.iload_n 3, 1) := by decide +kernel
theorem dX1_energyOf_30 : decode cX1_energyOf 30 = .ok (.invokevirtual 48, 3) := by decide +kernel
theorem dX1_energyOf_33 : decode cX1_energyOf 33 = .ok (.iadd, 1) := by decide +kernel
theorem dX1_energyOf_34 : decode cX1_energyOf 34 = .ok (.istore_n 2, 1) := by decide +kernel
theorem dX1_energyOf_35 : decode cX1_energyOf 35 = .ok (.iinc 3 1, 3) := by decide +kernel
theorem dX1_energyOf_38 : decode cX1_energyOf 38 = .ok (.goto (-34), 3) := by decide +kernel
theorem dX1_energyOf_41 : decode cX1_energyOf 41 = .ok (.iload_n 2, 1) := by decide +kernel
theorem dX1_energyOf_42 : decode cX1_energyOf 42 = .ok (.ireturn, 1) := by decide +kernel
theorem dX1_change_0 : decode cX1_change 0 = .ok (.aload_n 0, 1) := by decide +kernel
theorem dX1_change_1 : decode cX1_change 1 = .ok (.aload_n 1, 1) := by decide +kernel
theorem dX1_change_2 : decode cX1_change 2 = .ok (.invokevirtual 51, 3) := by decide +kernel
theorem dX1_change_5 : decode cX1_change 5 = .ok (.istore 4, 2) := by decide +kernel
theorem dX1_change_7 : decode cX1_change 7 = .ok (.aload_n 0, 1) := by decide +kernel
theorem dX1_change_8 : decode cX1_change 8 = .ok (.getfield 9, 3) := by decide +kernel
theorem dX1_change_11 : decode cX1_change 11 = .ok (.iload_n 2, 1) := by decide +kernel
theorem dX1_change_12 : decode cX1_change 12 = .ok (.iaload, 1) := by decide +kernel
theorem dX1_change_13 : decode cX1_change 13 = .ok (.istore 5, 2) := by decide +kernel
theorem dX1_change_15 : decode cX1_change 15 = .ok (.aload_n 0, 1) := by decide +kernel
theorem dX1_change_16 : decode cX1_change 16 = .ok (.getfield 9, 3) := by decide +kernel
theorem dX1_change_19 : decode cX1_change 19 = .ok (.iload_n 2, 1) := by decide +kernel
theorem dX1_change_20 : decode cX1_change 20 = .ok (.iload_n 3, 1) := by decide +kernel
theorem dX1_change_21 : decode cX1_change 21 = .ok (.iastore, 1) := by decide +kernel
theorem dX1_change_22 : decode cX1_change 22 = .ok (.aload_n 0, 1) := by decide +kernel
theorem dX1_change_23 : decode cX1_change 23 = .ok (.aload_n 0, 1) := by decide +kernel
theorem dX1_change_24 : decode cX1_change 24 = .ok (.aload_n 1, 1) := by decide +kernel
theorem dX1_change_25 : decode cX1_change 25 = .ok (.invokevirtual 51, 3) := by decide +kernel
theorem dX1_change_28 : decode cX1_change 28 = .ok (.iload 4, 2) := by decide +kernel
theorem dX1_change_30 : decode cX1_change 30 = .ok (.isub, 1) := by decide +kernel
theorem dX1_change_31 : decode cX1_change 31 = .ok (.invokevirtual 55, 3) := by decide +kernel
theorem dX1_change_34 : decode cX1_change 34 = .ok (.iload 5, 2) := by decide +kernel
theorem dX1_change_36 : decode cX1_change 36 = .ok (.ireturn, 1) := by decide +kernel
theorem dX1_changeHeld_0 : decode cX1_changeHeld 0 = .ok (.aload_n 0, 1) := by decide +kernel
theorem dX1_changeHeld_1 : decode cX1_changeHeld 1 = .ok (.getfield 18, 3) := by decide +kernel
theorem dX1_changeHeld_4 : decode cX1_changeHeld 4 = .ok (.iload_n 1, 1) := by decide +kernel
theorem dX1_changeHeld_5 : decode cX1_changeHeld 5 = .ok (.baload, 1) := by decide +kernel
theorem dX1_changeHeld_6 : decode cX1_changeHeld 6 = .ok (.istore_n 3, 1) := by decide +kernel
theorem dX1_changeHeld_7 : decode cX1_changeHeld 7 = .ok (.aload_n 0, 1) := by decide +kernel
theorem dX1_changeHeld_8 : decode cX1_changeHeld 8 = .ok (.getfield 18, 3) := by decide +kernel
theorem dX1_changeHeld_11 : decode cX1_changeHeld 11 = .ok (.iload_n 1, 1) := by decide +kernel
theorem dX1_changeHeld_12 : decode cX1_changeHeld 12 = .ok (.iload_n 2, 1) := by decide +kernel
theorem dX1_changeHeld_13 : decode cX1_changeHeld 13 = .ok (.bastore, 1) := by decide +kernel
theorem dX1_changeHeld_14 : decode cX1_changeHeld 14 = .ok (.iload_n 3, 1) := by decide +kernel
theorem dX1_changeHeld_15 : decode cX1_changeHeld 15 = .ok (.ireturn, 1) := by decide +kernel
theorem dX1_letBreathe_0 : decode cX1_letBreathe 0 = .ok (.aload_n 0, 1) := by decide +kernel
theorem dX1_letBreathe_1 : decode cX1_letBreathe 1 = .ok (.aload_n 1, 1) := by decide +kernel
theorem dX1_letBreathe_2 : decode cX1_letBreathe 2 = .ok (.invokevirtual 51, 3) := by decide +kernel
theorem dX1_letBreathe_5 : decode cX1_letBreathe 5 = .ok (.istore_n 3, 1) := by decide +kernel
theorem dX1_letBreathe_6 : decode cX1_letBreathe 6 = .ok (.iconst 0, 1) := by decide +kernel
theorem dX1_letBreathe_7 : decode cX1_letBreathe 7 = .ok (.istore 4, 2) := by decide +kernel
theorem dX1_letBreathe_9 : decode cX1_letBreathe 9 = .ok (.iconst 1, 1) := by decide +kernel
theorem dX1_letBreathe_10 : decode cX1_letBreathe 10 = .ok (.istore 5, 2) := by decide +kernel
theorem dX1_letBreathe_12 : decode cX1_letBreathe 12 = .ok (.iconst 0, 1) := by decide +kernel
theorem dX1_letBreathe_13 : decode cX1_letBreathe 13 = .ok (.istore 6, 2) := by decide +kernel
theorem dX1_letBreathe_15 : decode cX1_letBreathe 15 = .ok (.iload 6, 2) := by decide +kernel
theorem dX1_letBreathe_17 : decode cX1_letBreathe 17 = .ok (.iload_n 2, 1) := by decide +kernel
theorem dX1_letBreathe_18 : decode cX1_letBreathe 18 = .ok (.if_icmp .ge 44, 3) := by decide +kernel
theorem dX1_letBreathe_21 : decode cX1_letBreathe 21 = .ok (.iload 5, 2) := by decide +kernel
theorem dX1_letBreathe_23 : decode cX1_letBreathe 23 = .ok (.ifCond .eq 39, 3) := by decide +kernel
theorem dX1_letBreathe_26 : decode cX1_letBreathe 26 = .ok (.aload_n 0, 1) := by decide +kernel
theorem dX1_letBreathe_27 : decode cX1_letBreathe 27 = .ok (.aload_n 1, 1) := by decide +kernel
theorem dX1_letBreathe_28 : decode cX1_letBreathe 28 = .ok (.aload_n 0, 1) := by decide +kernel
theorem dX1_letBreathe_29 : decode cX1_letBreathe 29 = .ok (.getfield 9, 3) := by decide +kernel
theorem dX1_letBreathe_32 : decode cX1_letBreathe 32 = .ok (.invokevirtual 59, 3) := by decide +kernel
theorem dX1_letBreathe_35 : decode cX1_letBreathe 35 = .ok (.istore 7, 2) := by decide +kernel
theorem dX1_letBreathe_37 : decode cX1_letBreathe 37 = .ok (.iload 4, 2) := by decide +kernel
theorem dX1_letBreathe_39 : decode cX1_letBreathe 39 = .ok (.iload 7, 2) := by decide +kernel
theorem dX1_letBreathe_41 : decode cX1_letBreathe 41 = .ok (.iadd, 1) := by decide +kernel
theorem dX1_letBreathe_42 : decode cX1_letBreathe 42 = .ok (.istore 4, 2) := by decide +kernel
theorem dX1_letBreathe_44 : decode cX1_letBreathe 44 = .ok (.iload 7, 2) := by decide +kernel
theorem dX1_letBreathe_46 : decode cX1_letBreathe 46 = .ok (.ifCond .le 7, 3) := by decide +kernel
theorem dX1_letBreathe_49 : decode cX1_letBreathe 49 = .ok (.iconst 1, 1) := by decide +kernel
theorem dX1_letBreathe_50 : decode cX1_letBreathe 50 = .ok (.goto 4, 3) := by decide +kernel
theorem dX1_letBreathe_53 : decode cX1_letBreathe 53 = .ok (.iconst 0, 1) := by decide +kernel
theorem dX1_letBreathe_54 : decode cX1_letBreathe 54 = .ok (.istore 5, 2) := by decide +kernel
theorem dX1_letBreathe_56 : decode cX1_letBreathe 56 = .ok (.iinc 6 1, 3) := by decide +kernel
theorem dX1_letBreathe_59 : decode cX1_letBreathe 59 = .ok (.goto (-44), 3) := by decide +kernel
theorem dX1_letBreathe_62 : decode cX1_letBreathe 62 = .ok (.aload_n 0, 1) := by decide +kernel
theorem dX1_letBreathe_63 : decode cX1_letBreathe 63 = .ok (.dup, 1) := by decide +kernel
theorem dX1_letBreathe_64 : decode cX1_letBreathe 64 = .ok (.getfield 32, 3) := by decide +kernel
theorem dX1_letBreathe_67 : decode cX1_letBreathe 67 = .ok (.iload_n 3, 1) := by decide +kernel
theorem dX1_letBreathe_68 : decode cX1_letBreathe 68 = .ok (.aload_n 0, 1) := by decide +kernel
theorem dX1_letBreathe_69 : decode cX1_letBreathe 69 = .ok (.aload_n 1, 1) := by decide +kernel
theorem dX1_letBreathe_70 : decode cX1_letBreathe 70 = .ok (.invokevirtual 51, 3) := by decide +kernel
theorem dX1_letBreathe_73 : decode cX1_letBreathe 73 = .ok (.isub, 1) := by decide +kernel
theorem dX1_letBreathe_74 : decode cX1_letBreathe 74 = .ok (.iadd, 1) := by decide +kernel
theorem dX1_letBreathe_75 : decode cX1_letBreathe 75 = .ok (.putfield 32, 3) := by decide +kernel
theorem dX1_letBreathe_78 : decode cX1_letBreathe 78 = .ok (.iload 4, 2) := by decide +kernel
theorem dX1_letBreathe_80 : decode cX1_letBreathe 80 = .ok (.ireturn, 1) := by decide +kernel
theorem dX1_breathsToRest_0 : decode cX1_breathsToRest 0 = .ok (.aload_n 0, 1) := by decide +kernel
theorem dX1_breathsToRest_1 : decode cX1_breathsToRest 1 = .ok (.getfield 9, 3) := by decide +kernel
theorem dX1_breathsToRest_4 : decode cX1_breathsToRest 4 = .ok (.iconst 0, 1) := by decide +kernel
theorem dX1_breathsToRest_5 : decode cX1_breathsToRest 5 = .ok (.aload_n 0, 1) := by decide +kernel
theorem dX1_breathsToRest_6 : decode cX1_breathsToRest 6 = .ok (.getfield 15, 3) := by decide +kernel
theorem dX1_breathsToRest_9 : decode cX1_breathsToRest 9 = .ok (.iconst 0, 1) := by decide +kernel
theorem dX1_breathsToRest_10 : decode cX1_breathsToRest 10 = .ok (.bipush 36, 2) := by decide +kernel
theorem dX1_breathsToRest_12 : decode cX1_breathsToRest 12 = .ok (.invokestatic 62, 3) := by decide +kernel
theorem dX1_breathsToRest_15 : decode cX1_breathsToRest 15 = .ok (.iconst 0, 1) := by decide +kernel
theorem dX1_breathsToRest_16 : decode cX1_breathsToRest 16 = .ok (.istore_n 2, 1) := by decide +kernel
theorem dX1_breathsToRest_17 : decode cX1_breathsToRest 17 = .ok (.iload_n 2, 1) := by decide +kernel
theorem dX1_breathsToRest_18 : decode cX1_breathsToRest 18 = .ok (.sipush 4000, 3) := by decide +kernel
theorem dX1_breathsToRest_21 : decode cX1_breathsToRest 21 = .ok (.if_icmp .ge 21, 3) := by decide +kernel
theorem dX1_breathsToRest_24 : decode cX1_breathsToRest 24 = .ok (.aload_n 0, 1) := by decide +kernel
theorem dX1_breathsToRest_25 : decode cX1_breathsToRest 25 = .ok (.aload_n 1, 1) := by decide +kernel
theorem dX1_breathsToRest_26 : decode cX1_breathsToRest 26 = .ok (.aload_n 0, 1) := by decide +kernel
theorem dX1_breathsToRest_27 : decode cX1_breathsToRest 27 = .ok (.getfield 15, 3) := by decide +kernel
theorem dX1_breathsToRest_30 : decode cX1_breathsToRest 30 = .ok (.invokevirtual 59, 3) := by decide +kernel
theorem dX1_breathsToRest_33 : decode cX1_breathsToRest 33 = .ok (.ifCond .le 9, 3) := by decide +kernel
theorem dX1_breathsToRest_36 : decode cX1_breathsToRest 36 = .ok (.iinc 2 1, 3) := by decide +kernel
theorem dX1_breathsToRest_39 : decode cX1_breathsToRest 39 = .ok (.goto (-22), 3) := by decide +kernel
theorem dX1_breathsToRest_42 : decode cX1_breathsToRest 42 = .ok (.iload_n 2, 1) := by decide +kernel
theorem dX1_breathsToRest_43 : decode cX1_breathsToRest 43 = .ok (.ireturn, 1) := by decide +kernel
theorem dX1_energyAtRest_0 : decode cX1_energyAtRest 0 = .ok (.aload_n 0, 1) := by decide +kernel
theorem dX1_energyAtRest_1 : decode cX1_energyAtRest 1 = .ok (.aload_n 1, 1) := by decide +kernel
theorem dX1_energyAtRest_2 : decode cX1_energyAtRest 2 = .ok (.invokevirtual 68, 3) := by decide +kernel
theorem dX1_energyAtRest_5 : decode cX1_energyAtRest 5 = .ok (.pop, 1) := by decide +kernel
theorem dX1_energyAtRest_6 : decode cX1_energyAtRest 6 = .ok (.aload_n 1, 1) := by decide +kernel
theorem dX1_energyAtRest_7 : decode cX1_energyAtRest 7 = .ok (.aload_n 0, 1) := by decide +kernel
theorem dX1_energyAtRest_8 : decode cX1_energyAtRest 8 = .ok (.getfield 15, 3) := by decide +kernel
theorem dX1_energyAtRest_11 : decode cX1_energyAtRest 11 = .ok (.invokestatic 35, 3) := by decide +kernel
theorem dX1_energyAtRest_14 : decode cX1_energyAtRest 14 = .ok (.ireturn, 1) := by decide +kernel
theorem dX1_breath_0 : decode cX1_breath 0 = .ok (.iconst 0, 1) := by decide +kernel
theorem dX1_breath_1 : decode cX1_breath 1 = .ok (.istore_n 3, 1) := by decide +kernel
theorem dX1_breath_2 : decode cX1_breath 2 = .ok (.iconst 0, 1) := by decide +kernel
theorem dX1_breath_3 : decode cX1_breath 3 = .ok (.istore 4, 2) := by decide +kernel
theorem dX1_breath_5 : decode cX1_breath 5 = .ok (.iload 4, 2) := by decide +kernel
theorem dX1_breath_7 : decode cX1_breath 7 = .ok (.bipush 36, 2) := by decide +kernel
theorem dX1_breath_9 : decode cX1_breath 9 = .ok (.if_icmp .ge 49, 3) := by decide +kernel
theorem dX1_breath_12 : decode cX1_breath 12 = .ok (.aload_n 0, 1) := by decide +kernel
theorem dX1_breath_13 : decode cX1_breath 13 = .ok (.getfield 18, 3) := by decide +kernel
theorem dX1_breath_16 : decode cX1_breath 16 = .ok (.aload_n 2, 1) := by decide +kernel
theorem dX1_breath_17 : decode cX1_breath 17 = .ok (.iload 4, 2) := by decide +kernel
theorem dX1_breath_19 : decode cX1_breath 19 = .ok (.iaload, 1) := by decide +kernel
theorem dX1_breath_20 : decode cX1_breath 20 = .ok (.baload, 1) := by decide +kernel
theorem dX1_breath_21 : decode cX1_breath 21 = .ok (.ifCond .ne 31, 3) := by decide +kernel
theorem dX1_breath_24 : decode cX1_breath 24 = .ok (.aload_n 0, 1) := by decide +kernel
theorem dX1_breath_25 : decode cX1_breath 25 = .ok (.aload_n 1, 1) := by decide +kernel
theorem dX1_breath_26 : decode cX1_breath 26 = .ok (.aload_n 2, 1) := by decide +kernel
theorem dX1_breath_27 : decode cX1_breath 27 = .ok (.iload 4, 2) := by decide +kernel
theorem dX1_breath_29 : decode cX1_breath 29 = .ok (.invokevirtual 71, 3) := by decide +kernel
theorem dX1_breath_32 : decode cX1_breath 32 = .ok (.istore 5, 2) := by decide +kernel
theorem dX1_breath_34 : decode cX1_breath 34 = .ok (.iload 5, 2) := by decide +kernel
theorem dX1_breath_36 : decode cX1_breath 36 = .ok (.aload_n 2, 1) := by decide +kernel
theorem dX1_breath_37 : decode cX1_breath 37 = .ok (.iload 4, 2) := by decide +kernel
theorem dX1_breath_39 : decode cX1_breath 39 = .ok (.iaload, 1) := by decide +kernel
theorem dX1_breath_40 : decode cX1_breath 40 = .ok (.if_icmp .eq 12, 3) := by decide +kernel
theorem dX1_breath_43 : decode cX1_breath 43 = .ok (.aload_n 2, 1) := by decide +kernel
theorem dX1_breath_44 : decode cX1_breath 44 = .ok (.iload 4, 2) := by decide +kernel
theorem dX1_breath_46 : decode cX1_breath 46 = .ok (.iload 5, 2) := by decide +kernel
theorem dX1_breath_48 : decode cX1_breath 48 = .ok (.iastore, 1) := by decide +kernel
theorem dX1_breath_49 : decode cX1_breath 49 = .ok (.iinc 3 1, 3) := by decide +kernel
theorem dX1_breath_52 : decode cX1_breath 52 = .ok (.iinc 4 1, 3) := by decide +kernel
theorem dX1_breath_55 : decode cX1_breath 55 = .ok (.goto (-50), 3) := by decide +kernel
theorem dX1_breath_58 : decode cX1_breath 58 = .ok (.iload_n 3, 1) := by decide +kernel
theorem dX1_breath_59 : decode cX1_breath 59 = .ok (.ireturn, 1) := by decide +kernel
theorem dX1_bestOwner_0 : decode cX1_bestOwner 0 = .ok (.aload_n 2, 1) := by decide +kernel
theorem dX1_bestOwner_1 : decode cX1_bestOwner 1 = .ok (.iload_n 3, 1) := by decide +kernel
theorem dX1_bestOwner_2 : decode cX1_bestOwner 2 = .ok (.iaload, 1) := by decide +kernel
theorem dX1_bestOwner_3 : decode cX1_bestOwner 3 = .ok (.istore 4, 2) := by decide +kernel
theorem dX1_bestOwner_5 : decode cX1_bestOwner 5 = .ok (.iload 4, 2) := by decide +kernel
theorem dX1_bestOwner_7 : decode cX1_bestOwner 7 = .ok (.istore 5, 2) := by decide +kernel
theorem dX1_bestOwner_9 : decode cX1_bestOwner 9 = .ok (.aload_n 1, 1) := by decide +kernel
theorem dX1_bestOwner_10 : decode cX1_bestOwner 10 = .ok (.aload_n 2, 1) := by decide +kernel
theorem dX1_bestOwner_11 : decode cX1_bestOwner 11 = .ok (.iload_n 3, 1) := by decide +kernel
theorem dX1_bestOwner_12 : decode cX1_bestOwner 12 = .ok (.iload 4, 2) := by decide +kernel
theorem dX1_bestOwner_14 : decode cX1_bestOwner 14 = .ok (.invokestatic 75, 3) := by decide +kernel
theorem dX1_bestOwner_17 : decode cX1_bestOwner 17 = .ok (.istore 6, 2) := by decide +kernel
theorem dX1_bestOwner_19 : decode cX1_bestOwner 19 = .ok (.iconst 0, 1) := by decide +kernel
theorem dX1_bestOwner_20 : decode cX1_bestOwner 20 = .ok (.istore 7, 2) := by decide +kernel
theorem dX1_bestOwner_22 : decode cX1_bestOwner 22 = .ok (.iload 7, 2) := by decide +kernel
theorem dX1_bestOwner_24 : decode cX1_bestOwner 24 = .ok (.iconst 4, 1) := by decide +kernel
theorem dX1_bestOwner_25 : decode cX1_bestOwner 25 = .ok (.if_icmp .ge 103, 3) := by decide +kernel
theorem dX1_bestOwner_28 : decode cX1_bestOwner 28 = .ok (.aload_n 1, 1) := by decide +kernel
theorem dX1_bestOwner_29 : decode cX1_bestOwner 29 = .ok (.iload_n 3, 1) := by decide +kernel
theorem dX1_bestOwner_30 : decode cX1_bestOwner 30 = .ok (.iload 7, 2) := by decide +kernel
theorem dX1_bestOwner_32 : decode cX1_bestOwner 32 = .ok (.invokevirtual 79, 3) := by decide +kernel
theorem dX1_bestOwner_35 : decode cX1_bestOwner 35 = .ok (.istore 8, 2) := by decide +kernel
theorem dX1_bestOwner_37 : decode cX1_bestOwner 37 = .ok (.iload 8, 2) := by decide +kernel
theorem dX1_bestOwner_39 : decode cX1_bestOwner 39 = .ok (.iconst (-1), 1) := by decide +kernel
theorem dX1_bestOwner_40 : decode cX1_bestOwner 40 = .ok (.if_icmp .eq 82, 3) := by decide +kernel
theorem dX1_bestOwner_43 : decode cX1_bestOwner 43 = .ok (.aload_n 2, 1) := by decide +kernel
theorem dX1_bestOwner_44 : decode cX1_bestOwner 44 = .ok (.aload_n 1, 1) := by decide +kernel
theorem dX1_bestOwner_45 : decode cX1_bestOwner 45 = .ok (.iload 8, 2) := by decide +kernel
theorem dX1_bestOwner_47 : decode cX1_bestOwner 47 = .ok (.iload_n 3, 1) := by decide +kernel
theorem dX1_bestOwner_48 : decode cX1_bestOwner 48 = .ok (.invokevirtual 83, 3) := by decide +kernel
theorem dX1_bestOwner_51 : decode cX1_bestOwner 51 = .ok (.iaload, 1) := by decide +kernel
theorem dX1_bestOwner_52 : decode cX1_bestOwner 52 = .ok (.istore 9, 2) := by decide +kernel
theorem dX1_bestOwner_54 : decode cX1_bestOwner 54 = .ok (.aload_n 1, 1) := by decide +kernel
theorem dX1_bestOwner_55 : decode cX1_bestOwner 55 = .ok (.aload_n 2, 1) := by decide +kernel
theorem dX1_bestOwner_56 : decode cX1_bestOwner 56 = .ok (.iload_n 3, 1) := by decide +kernel
theorem dX1_bestOwner_57 : decode cX1_bestOwner 57 = .ok (.iload 9, 2) := by decide +kernel
theorem dX1_bestOwner_59 : decode cX1_bestOwner 59 = .ok (.invokestatic 75, 3) := by decide +kernel
theorem dX1_bestOwner_62 : decode cX1_bestOwner 62 = .ok (.istore 10, 2) := by decide +kernel
theorem dX1_bestOwner_64 : decode cX1_bestOwner 64 = .ok (.iload 10, 2) := by decide +kernel
theorem dX1_bestOwner_66 : decode cX1_bestOwner 66 = .ok (.iload 6, 2) := by decide +kernel
theorem dX1_bestOwner_68 : decode cX1_bestOwner 68 = .ok (.if_icmp .lt 24, 3) := by decide +kernel
theorem dX1_bestOwner_71 : decode cX1_bestOwner 71 = .ok (.iload 10, 2) := by decide +kernel
theorem dX1_bestOwner_73 : decode cX1_bestOwner 73 = .ok (.iload 6, 2) := by decide +kernel
theorem dX1_bestOwner_75 : decode cX1_bestOwner 75 = .ok (.if_icmp .ne 21, 3) := by decide +kernel
theorem dX1_bestOwner_78 : decode cX1_bestOwner 78 = .ok (.iload 5, 2) := by decide +kernel
theorem dX1_bestOwner_80 : decode cX1_bestOwner 80 = .ok (.iload 4, 2) := by decide +kernel
theorem dX1_bestOwner_82 : decode cX1_bestOwner 82 = .ok (.if_icmp .eq 14, 3) := by decide +kernel
theorem dX1_bestOwner_85 : decode cX1_bestOwner 85 = .ok (.iload 9, 2) := by decide +kernel
theorem dX1_bestOwner_87 : decode cX1_bestOwner 87 = .ok (.iload 5, 2) := by decide +kernel
theorem dX1_bestOwner_89 : decode cX1_bestOwner 89 = .ok (.if_icmp .ge 7, 3) := by decide +kernel
theorem dX1_bestOwner_92 : decode cX1_bestOwner 92 = .ok (.iconst 1, 1) := by decide +kernel
theorem dX1_bestOwner_93 : decode cX1_bestOwner 93 = .ok (.goto 4, 3) := by decide +kernel
theorem dX1_bestOwner_96 : decode cX1_bestOwner 96 = .ok (.iconst 0, 1) := by decide +kernel
theorem dX1_bestOwner_97 : decode cX1_bestOwner 97 = .ok (.istore 11, 2) := by decide +kernel
theorem dX1_bestOwner_99 : decode cX1_bestOwner 99 = .ok (.iload 11, 2) := by decide +kernel
theorem dX1_bestOwner_101 : decode cX1_bestOwner 101 = .ok (.ifCond .eq 21, 3) := by decide +kernel
theorem dX1_bestOwner_104 : decode cX1_bestOwner 104 = .ok (.aload_n 0, 1) := by decide +kernel
theorem dX1_bestOwner_105 : decode cX1_bestOwner 105 = .ok (.getfield 18, 3) := by decide +kernel
theorem dX1_bestOwner_108 : decode cX1_bestOwner 108 = .ok (.iload 9, 2) := by decide +kernel
theorem dX1_bestOwner_110 : decode cX1_bestOwner 110 = .ok (.baload, 1) := by decide +kernel
theorem dX1_bestOwner_111 : decode cX1_bestOwner 111 = .ok (.ifCond .ne 11, 3) := by decide +kernel
theorem dX1_bestOwner_114 : decode cX1_bestOwner 114 = .ok (.iload 9, 2) := by decide +kernel
theorem dX1_bestOwner_116 : decode cX1_bestOwner 116 = .ok (.istore 5, 2) := by decide +kernel
theorem dX1_bestOwner_118 : decode cX1_bestOwner 118 = .ok (.iload 10, 2) := by decide +kernel
theorem dX1_bestOwner_120 : decode cX1_bestOwner 120 = .ok (.istore 6, 2) := by decide +kernel
theorem dX1_bestOwner_122 : decode cX1_bestOwner 122 = .ok (.iinc 7 1, 3) := by decide +kernel
theorem dX1_bestOwner_125 : decode cX1_bestOwner 125 = .ok (.goto (-103), 3) := by decide +kernel
theorem dX1_bestOwner_128 : decode cX1_bestOwner 128 = .ok (.iload 5, 2) := by decide +kernel
theorem dX1_bestOwner_130 : decode cX1_bestOwner 130 = .ok (.ireturn, 1) := by decide +kernel
theorem dX1_wallsWith_0 : decode cX1_wallsWith 0 = .ok (.iconst 0, 1) := by decide +kernel
theorem dX1_wallsWith_1 : decode cX1_wallsWith 1 = .ok (.istore 4, 2) := by decide +kernel
theorem dX1_wallsWith_3 : decode cX1_wallsWith 3 = .ok (.iconst 0, 1) := by decide +kernel
theorem dX1_wallsWith_4 : decode cX1_wallsWith 4 = .ok (.istore 5, 2) := by decide +kernel
theorem dX1_wallsWith_6 : decode cX1_wallsWith 6 = .ok (.iload 5, 2) := by decide +kernel
theorem dX1_wallsWith_8 : decode cX1_wallsWith 8 = .ok (.iconst 4, 1) := by decide +kernel
theorem dX1_wallsWith_9 : decode cX1_wallsWith 9 = .ok (.if_icmp .ge 48, 3) := by decide +kernel
theorem dX1_wallsWith_12 : decode cX1_wallsWith 12 = .ok (.aload_n 0, 1) := by decide +kernel
theorem dX1_wallsWith_13 : decode cX1_wallsWith 13 = .ok (.iload_n 2, 1) := by decide +kernel
theorem dX1_wallsWith_14 : decode cX1_wallsWith 14 = .ok (.iload 5, 2) := by decide +kernel
theorem dX1_wallsWith_16 : decode cX1_wallsWith 16 = .ok (.invokevirtual 79, 3) := by decide +kernel
theorem dX1_wallsWith_19 : decode cX1_wallsWith 19 = .ok (.istore 6, 2) := by decide +kernel
theorem dX1_wallsWith_21 : decode cX1_wallsWith 21 = .ok (.iload 6, 2) := by decide +kernel
theorem dX1_wallsWith_23 : decode cX1_wallsWith 23 = .ok (.iconst (-1), 1) := by decide +kernel
theorem dX1_wallsWith_24 : decode cX1_wallsWith 24 = .ok (.if_icmp .eq 27, 3) := by decide +kernel
theorem dX1_wallsWith_27 : decode cX1_wallsWith 27 = .ok (.aload_n 1, 1) := by decide +kernel
theorem dX1_wallsWith_28 : decode cX1_wallsWith 28 = .ok (.aload_n 0, 1) := by decide +kernel
theorem dX1_wallsWith_29 : decode cX1_wallsWith 29 = .ok (.iload 6, 2) := by decide +kernel
theorem dX1_wallsWith_31 : decode cX1_wallsWith 31 = .ok (.iload_n 2, 1) := by decide +kernel
theorem dX1_wallsWith_32 : decode cX1_wallsWith 32 = .ok (.invokevirtual 83, 3) := by decide +kernel
theorem dX1_wallsWith_35 : decode cX1_wallsWith 35 = .ok (.iaload, 1) := by decide +kernel
theorem dX1_wallsWith_36 : decode cX1_wallsWith 36 = .ok (.iload_n 3, 1) := by decide +kernel
theorem dX1_wallsWith_37 : decode cX1_wallsWith 37 = .ok (.if_icmp .eq 14, 3) := by decide +kernel
theorem dX1_wallsWith_40 : decode cX1_wallsWith 40 = .ok (.iload 4, 2) := by decide +kernel
theorem dX1_wallsWith_42 : decode cX1_wallsWith 42 = .ok (.aload_n 0, 1) := by decide +kernel
theorem dX1_wallsWith_43 : decode cX1_wallsWith 43 = .ok (.iload 6, 2) := by decide +kernel
theorem dX1_wallsWith_45 : decode cX1_wallsWith 45 = .ok (.invokevirtual 48, 3) := by decide +kernel
theorem dX1_wallsWith_48 : decode cX1_wallsWith 48 = .ok (.iadd, 1) := by decide +kernel
theorem dX1_wallsWith_49 : decode cX1_wallsWith 49 = .ok (.istore 4, 2) := by decide +kernel
theorem dX1_wallsWith_51 : decode cX1_wallsWith 51 = .ok (.iinc 5 1, 3) := by decide +kernel
theorem dX1_wallsWith_54 : decode cX1_wallsWith 54 = .ok (.goto (-48), 3) := by decide +kernel
theorem dX1_wallsWith_57 : decode cX1_wallsWith 57 = .ok (.iload 4, 2) := by decide +kernel
theorem dX1_wallsWith_59 : decode cX1_wallsWith 59 = .ok (.ireturn, 1) := by decide +kernel
theorem dX1_size_0 : decode cX1_size 0 = .ok (.iconst 0, 1) := by decide +kernel
theorem dX1_size_1 : decode cX1_size 1 = .ok (.istore_n 2, 1) := by decide +kernel
theorem dX1_size_2 : decode cX1_size 2 = .ok (.iconst 0, 1) := by decide +kernel
theorem dX1_size_3 : decode cX1_size 3 = .ok (.istore_n 3, 1) := by decide +kernel
theorem dX1_size_4 : decode cX1_size 4 = .ok (.iload_n 3, 1) := by decide +kernel
theorem dX1_size_5 : decode cX1_size 5 = .ok (.bipush 36, 2) := by decide +kernel
theorem dX1_size_7 : decode cX1_size 7 = .ok (.if_icmp .ge 22, 3) := by decide +kernel
theorem dX1_size_10 : decode cX1_size 10 = .ok (.aload_n 0, 1) := by decide +kernel
theorem dX1_size_11 : decode cX1_size 11 = .ok (.getfield 9, 3) := by decide +kernel
theorem dX1_size_14 : decode cX1_size 14 = .ok (.iload_n 3, 1) := by decide +kernel
theorem dX1_size_15 : decode cX1_size 15 = .ok (.iaload, 1) := by decide +kernel
theorem dX1_size_16 : decode cX1_size 16 = .ok (.iload_n 1, 1) := by decide +kernel
theorem dX1_size_17 : decode cX1_size 17 = .ok (.if_icmp .ne 6, 3) := by decide +kernel
theorem dX1_size_20 : decode cX1_size 20 = .ok (.iinc 2 1, 3) := by decide +kernel
theorem dX1_size_23 : decode cX1_size 23 = .ok (.iinc 3 1, 3) := by decide +kernel
theorem dX1_size_26 : decode cX1_size 26 = .ok (.goto (-22), 3) := by decide +kernel
theorem dX1_size_29 : decode cX1_size 29 = .ok (.iload_n 2, 1) := by decide +kernel
theorem dX1_size_30 : decode cX1_size 30 = .ok (.ireturn, 1) := by decide +kernel
theorem dX1_pieces_0 : decode cX1_pieces 0 = .ok (.iconst 0, 1) := by decide +kernel
theorem dX1_pieces_1 : decode cX1_pieces 1 = .ok (.istore_n 3, 1) := by decide +kernel
theorem dX1_pieces_2 : decode cX1_pieces 2 = .ok (.iload_n 3, 1) := by decide +kernel
theorem dX1_pieces_3 : decode cX1_pieces 3 = .ok (.bipush 36, 2) := by decide +kernel
theorem dX1_pieces_5 : decode cX1_pieces 5 = .ok (.if_icmp .ge 16, 3) := by decide +kernel
theorem dX1_pieces_8 : decode cX1_pieces 8 = .ok (.aload_n 0, 1) := by decide +kernel
theorem dX1_pieces_9 : decode cX1_pieces 9 = .ok (.getfield 22, 3) := by decide +kernel
theorem dX1_pieces_12 : decode cX1_pieces 12 = .ok (.iload_n 3, 1) := by decide +kernel
theorem dX1_pieces_13 : decode cX1_pieces 13 = .ok (.iconst 0, 1) := by decide +kernel
theorem dX1_pieces_14 : decode cX1_pieces 14 = .ok (.bastore, 1) := by decide +kernel
theorem dX1_pieces_15 : decode cX1_pieces 15 = .ok (.iinc 3 1, 3) := by decide +kernel
theorem dX1_pieces_18 : decode cX1_pieces 18 = .ok (.goto (-16), 3) := by decide +kernel
theorem dX1_pieces_21 : decode cX1_pieces 21 = .ok (.iconst 0, 1) := by decide +kernel
theorem dX1_pieces_22 : decode cX1_pieces 22 = .ok (.istore_n 3, 1) := by decide +kernel
theorem dX1_pieces_23 : decode cX1_pieces 23 = .ok (.iconst 0, 1) := by decide +kernel
theorem dX1_pieces_24 : decode cX1_pieces 24 = .ok (.istore 4, 2) := by decide +kernel
theorem dX1_pieces_26 : decode cX1_pieces 26 = .ok (.iload 4, 2) := by decide +kernel
theorem dX1_pieces_28 : decode cX1_pieces 28 = .ok (.bipush 36, 2) := by decide +kernel
theorem dX1_pieces_30 : decode cX1_pieces 30 = .ok (.if_icmp .ge 40, 3) := by decide +kernel
theorem dX1_pieces_33 : decode cX1_pieces 33 = .ok (.aload_n 0, 1) := by decide +kernel
theorem dX1_pieces_34 : decode cX1_pieces 34 = .ok (.getfield 9, 3) := by decide +kernel
theorem dX1_pieces_37 : decode cX1_pieces 37 = .ok (.iload 4, 2) := by decide +kernel
theorem dX1_pieces_39 : decode cX1_pieces 39 = .ok (.iaload, 1) := by decide +kernel
theorem dX1_pieces_40 : decode cX1_pieces 40 = .ok (.iload_n 2, 1) := by decide +kernel
theorem dX1_pieces_41 : decode cX1_pieces 41 = .ok (.if_icmp .ne 23, 3) := by decide +kernel
theorem dX1_pieces_44 : decode cX1_pieces 44 = .ok (.aload_n 0, 1) := by decide +kernel
theorem dX1_pieces_45 : decode cX1_pieces 45 = .ok (.getfield 22, 3) := by decide +kernel
theorem dX1_pieces_48 : decode cX1_pieces 48 = .ok (.iload 4, 2) := by decide +kernel
theorem dX1_pieces_50 : decode cX1_pieces 50 = .ok (.baload, 1) := by decide +kernel
theorem dX1_pieces_51 : decode cX1_pieces 51 = .ok (.ifCond .ne 13, 3) := by decide +kernel
theorem dX1_pieces_54 : decode cX1_pieces 54 = .ok (.iinc 3 1, 3) := by decide +kernel
theorem dX1_pieces_57 : decode cX1_pieces 57 = .ok (.aload_n 0, 1) := by decide +kernel
theorem dX1_pieces_58 : decode cX1_pieces 58 = .ok (.aload_n 1, 1) := by decide +kernel
theorem dX1_pieces_59 : decode cX1_pieces 59 = .ok (.iload 4, 2) := by decide +kernel
theorem dX1_pieces_61 : decode cX1_pieces 61 = .ok (.invokevirtual 86, 3) := by decide +kernel
theorem dX1_pieces_64 : decode cX1_pieces 64 = .ok (.iinc 4 1, 3) := by decide +kernel
theorem dX1_pieces_67 : decode cX1_pieces 67 = .ok (.goto (-41), 3) := by decide +kernel
theorem dX1_pieces_70 : decode cX1_pieces 70 = .ok (.iload_n 3, 1) := by decide +kernel
theorem dX1_pieces_71 : decode cX1_pieces 71 = .ok (.ireturn, 1) := by decide +kernel
theorem dX1_seePiece_0 : decode cX1_seePiece 0 = .ok (.aload_n 0, 1) := by decide +kernel
theorem dX1_seePiece_1 : decode cX1_seePiece 1 = .ok (.getfield 22, 3) := by decide +kernel
theorem dX1_seePiece_4 : decode cX1_seePiece 4 = .ok (.iload_n 2, 1) := by decide +kernel
theorem dX1_seePiece_5 : decode cX1_seePiece 5 = .ok (.iconst 1, 1) := by decide +kernel
theorem dX1_seePiece_6 : decode cX1_seePiece 6 = .ok (.bastore, 1) := by decide +kernel
theorem dX1_seePiece_7 : decode cX1_seePiece 7 = .ok (.aload_n 0, 1) := by decide +kernel
theorem dX1_seePiece_8 : decode cX1_seePiece 8 = .ok (.getfield 25, 3) := by decide +kernel
theorem dX1_seePiece_11 : decode cX1_seePiece 11 = .ok (.iconst 0, 1) := by decide +kernel
theorem dX1_seePiece_12 : decode cX1_seePiece 12 = .ok (.iload_n 2, 1) := by decide +kernel
theorem dX1_seePiece_13 : decode cX1_seePiece 13 = .ok (.iastore, 1) := by decide +kernel
theorem dX1_seePiece_14 : decode cX1_seePiece 14 = .ok (.iconst 1, 1) := by decide +kernel
theorem dX1_seePiece_15 : decode cX1_seePiece 15 = .ok (.istore_n 3, 1) := by decide +kernel
theorem dX1_seePiece_16 : decode cX1_seePiece 16 = .ok (.iconst 0, 1) := by decide +kernel
theorem dX1_seePiece_17 : decode cX1_seePiece 17 = .ok (.istore 4, 2) := by decide +kernel
theorem dX1_seePiece_19 : decode cX1_seePiece 19 = .ok (.iload 4, 2) := by decide +kernel
theorem dX1_seePiece_21 : decode cX1_seePiece 21 = .ok (.bipush 36, 2) := by decide +kernel
theorem dX1_seePiece_23 : decode cX1_seePiece 23 = .ok (.if_icmp .ge 116, 3) := by decide +kernel
theorem dX1_seePiece_26 : decode cX1_seePiece 26 = .ok (.iload 4, 2) := by decide +kernel
theorem dX1_seePiece_28 : decode cX1_seePiece 28 = .ok (.iload_n 3, 1) := by decide +kernel
theorem dX1_seePiece_29 : decode cX1_seePiece 29 = .ok (.if_icmp .ge 110, 3) := by decide +kernel
theorem dX1_seePiece_32 : decode cX1_seePiece 32 = .ok (.aload_n 0, 1) := by decide +kernel
theorem dX1_seePiece_33 : decode cX1_seePiece 33 = .ok (.getfield 25, 3) := by decide +kernel
theorem dX1_seePiece_36 : decode cX1_seePiece 36 = .ok (.iload 4, 2) := by decide +kernel
theorem dX1_seePiece_38 : decode cX1_seePiece 38 = .ok (.iaload, 1) := by decide +kernel
theorem dX1_seePiece_39 : decode cX1_seePiece 39 = .ok (.istore 5, 2) := by decide +kernel
theorem dX1_seePiece_41 : decode cX1_seePiece 41 = .ok (.iconst 0, 1) := by decide +kernel
theorem dX1_seePiece_42 : decode cX1_seePiece 42 = .ok (.istore 6, 2) := by decide +kernel
theorem dX1_seePiece_44 : decode cX1_seePiece 44 = .ok (.iload 6, 2) := by decide +kernel
theorem dX1_seePiece_46 : decode cX1_seePiece 46 = .ok (.iconst 4, 1) := by decide +kernel
theorem dX1_seePiece_47 : decode cX1_seePiece 47 = .ok (.if_icmp .ge 86, 3) := by decide +kernel
theorem dX1_seePiece_50 : decode cX1_seePiece 50 = .ok (.aload_n 1, 1) := by decide +kernel
theorem dX1_seePiece_51 : decode cX1_seePiece 51 = .ok (.iload 5, 2) := by decide +kernel
theorem dX1_seePiece_53 : decode cX1_seePiece 53 = .ok (.iload 6, 2) := by decide +kernel
theorem dX1_seePiece_55 : decode cX1_seePiece 55 = .ok (.invokevirtual 79, 3) := by decide +kernel
theorem dX1_seePiece_58 : decode cX1_seePiece 58 = .ok (.istore 7, 2) := by decide +kernel
theorem dX1_seePiece_60 : decode cX1_seePiece 60 = .ok (.iload 7, 2) := by decide +kernel
theorem dX1_seePiece_62 : decode cX1_seePiece 62 = .ok (.iconst (-1), 1) := by decide +kernel
theorem dX1_seePiece_63 : decode cX1_seePiece 63 = .ok (.if_icmp .eq 64, 3) := by decide +kernel
theorem dX1_seePiece_66 : decode cX1_seePiece 66 = .ok (.aload_n 1, 1) := by decide +kernel
theorem dX1_seePiece_67 : decode cX1_seePiece 67 = .ok (.iload 7, 2) := by decide +kernel
theorem dX1_seePiece_69 : decode cX1_seePiece 69 = .ok (.iload 5, 2) := by decide +kernel
theorem dX1_seePiece_71 : decode cX1_seePiece 71 = .ok (.invokevirtual 83, 3) := by decide +kernel
theorem dX1_seePiece_74 : decode cX1_seePiece 74 = .ok (.istore 8, 2) := by decide +kernel
theorem dX1_seePiece_76 : decode cX1_seePiece 76 = .ok (.aload_n 0, 1) := by decide +kernel
theorem dX1_seePiece_77 : decode cX1_seePiece 77 = .ok (.getfield 9, 3) := by decide +kernel
theorem dX1_seePiece_80 : decode cX1_seePiece 80 = .ok (.iload 8, 2) := by decide +kernel
theorem dX1_seePiece_82 : decode cX1_seePiece 82 = .ok (.iaload, 1) := by decide +kernel
theorem dX1_seePiece_83 : decode cX1_seePiece 83 = .ok (.aload_n 0, 1) := by decide +kernel
theorem dX1_seePiece_84 : decode cX1_seePiece 84 = .ok (.getfield 9, 3) := by decide +kernel
theorem dX1_seePiece_87 : decode cX1_seePiece 87 = .ok (.iload_n 2, 1) := by decide +kernel
theorem dX1_seePiece_88 : decode cX1_seePiece 88 = .ok (.iaload, 1) := by decide +kernel
theorem dX1_seePiece_89 : decode cX1_seePiece 89 = .ok (.if_icmp .ne 38, 3) := by decide +kernel
theorem dX1_seePiece_92 : decode cX1_seePiece 92 = .ok (.aload_n 0, 1) := by decide +kernel
theorem dX1_seePiece_93 : decode cX1_seePiece 93 = .ok (.getfield 22, 3) := by decide +kernel
theorem dX1_seePiece_96 : decode cX1_seePiece 96 = .ok (.iload 8, 2) := by decide +kernel
theorem dX1_seePiece_98 : decode cX1_seePiece 98 = .ok (.baload, 1) := by decide +kernel
theorem dX1_seePiece_99 : decode cX1_seePiece 99 = .ok (.ifCond .ne 28, 3) := by decide +kernel
theorem dX1_seePiece_102 : decode cX1_seePiece 102 = .ok (.iload_n 3, 1) := by decide +kernel
theorem dX1_seePiece_103 : decode cX1_seePiece 103 = .ok (.bipush 36, 2) := by decide +kernel
theorem dX1_seePiece_105 : decode cX1_seePiece 105 = .ok (.if_icmp .ge 22, 3) := by decide +kernel
theorem dX1_seePiece_108 : decode cX1_seePiece 108 = .ok (.aload_n 0, 1) := by decide +kernel
theorem dX1_seePiece_109 : decode cX1_seePiece 109 = .ok (.getfield 22, 3) := by decide +kernel
theorem dX1_seePiece_112 : decode cX1_seePiece 112 = .ok (.iload 8, 2) := by decide +kernel
theorem dX1_seePiece_114 : decode cX1_seePiece 114 = .ok (.iconst 1, 1) := by decide +kernel
theorem dX1_seePiece_115 : decode cX1_seePiece 115 = .ok (.bastore, 1) := by decide +kernel
theorem dX1_seePiece_116 : decode cX1_seePiece 116 = .ok (.aload_n 0, 1) := by decide +kernel
theorem dX1_seePiece_117 : decode cX1_seePiece 117 = .ok (.getfield 25, 3) := by decide +kernel
theorem dX1_seePiece_120 : decode cX1_seePiece 120 = .ok (.iload_n 3, 1) := by decide +kernel
theorem dX1_seePiece_121 : decode cX1_seePiece 121 = .ok (.iload 8, 2) := by decide +kernel
theorem dX1_seePiece_123 : decode cX1_seePiece 123 = .ok (.iastore, 1) := by decide +kernel
theorem dX1_seePiece_124 : decode cX1_seePiece 124 = .ok (.iinc 3 1, 3) := by decide +kernel
theorem dX1_seePiece_127 : decode cX1_seePiece 127 = .ok (.iinc 6 1, 3) := by decide +kernel
theorem dX1_seePiece_130 : decode cX1_seePiece 130 = .ok (.goto (-86), 3) := by decide +kernel
theorem dX1_seePiece_133 : decode cX1_seePiece 133 = .ok (.iinc 4 1, 3) := by decide +kernel
theorem dX1_seePiece_136 : decode cX1_seePiece 136 = .ok (.goto (-117), 3) := by decide +kernel
theorem dX1_seePiece_139 : decode cX1_seePiece 139 = .ok (.return_, 1) := by decide +kernel
theorem dX1_wallsAround_0 : decode cX1_wallsAround 0 = .ok (.iconst 0, 1) := by decide +kernel
theorem dX1_wallsAround_1 : decode cX1_wallsAround 1 = .ok (.istore_n 3, 1) := by decide +kernel
theorem dX1_wallsAround_2 : decode cX1_wallsAround 2 = .ok (.iconst 0, 1) := by decide +kernel
theorem dX1_wallsAround_3 : decode cX1_wallsAround 3 = .ok (.istore 4, 2) := by decide +kernel
theorem dX1_wallsAround_5 : decode cX1_wallsAround 5 = .ok (.iload 4, 2) := by decide +kernel
theorem dX1_wallsAround_7 : decode cX1_wallsAround 7 = .ok (.bipush 8, 2) := by decide +kernel
theorem dX1_wallsAround_9 : decode cX1_wallsAround 9 = .ok (.if_icmp .ge 26, 3) := by decide +kernel
theorem dX1_wallsAround_12 : decode cX1_wallsAround 12 = .ok (.iload 4, 2) := by decide +kernel
theorem dX1_wallsAround_14 : decode cX1_wallsAround 14 = .ok (.iload_n 2, 1) := by decide +kernel
theorem dX1_wallsAround_15 : decode cX1_wallsAround 15 = .ok (.if_icmp .eq 14, 3) := by decide +kernel
theorem dX1_wallsAround_18 : decode cX1_wallsAround 18 = .ok (.iload_n 3, 1) := by decide +kernel
theorem dX1_wallsAround_19 : decode cX1_wallsAround 19 = .ok (.aload_n 0, 1) := by decide +kernel
theorem dX1_wallsAround_20 : decode cX1_wallsAround 20 = .ok (.aload_n 1, 1) := by decide +kernel
theorem dX1_wallsAround_21 : decode cX1_wallsAround 21 = .ok (.iload_n 2, 1) := by decide +kernel
theorem dX1_wallsAround_22 : decode cX1_wallsAround 22 = .ok (.iload 4, 2) := by decide +kernel
theorem dX1_wallsAround_24 : decode cX1_wallsAround 24 = .ok (.invokevirtual 90, 3) := by decide +kernel
theorem dX1_wallsAround_27 : decode cX1_wallsAround 27 = .ok (.iadd, 1) := by decide +kernel
theorem dX1_wallsAround_28 : decode cX1_wallsAround 28 = .ok (.istore_n 3, 1) := by decide +kernel
theorem dX1_wallsAround_29 : decode cX1_wallsAround 29 = .ok (.iinc 4 1, 3) := by decide +kernel
theorem dX1_wallsAround_32 : decode cX1_wallsAround 32 = .ok (.goto (-27), 3) := by decide +kernel
theorem dX1_wallsAround_35 : decode cX1_wallsAround 35 = .ok (.iload_n 3, 1) := by decide +kernel
theorem dX1_wallsAround_36 : decode cX1_wallsAround 36 = .ok (.ireturn, 1) := by decide +kernel
theorem dX1_wallsBetween_0 : decode cX1_wallsBetween 0 = .ok (.iconst 0, 1) := by decide +kernel
theorem dX1_wallsBetween_1 : decode cX1_wallsBetween 1 = .ok (.istore 4, 2) := by decide +kernel
theorem dX1_wallsBetween_3 : decode cX1_wallsBetween 3 = .ok (.iconst 0, 1) := by decide +kernel
theorem dX1_wallsBetween_4 : decode cX1_wallsBetween 4 = .ok (.istore 5, 2) := by decide +kernel
theorem dX1_wallsBetween_6 : decode cX1_wallsBetween 6 = .ok (.iload 5, 2) := by decide +kernel
theorem dX1_wallsBetween_8 : decode cX1_wallsBetween 8 = .ok (.bipush 60, 2) := by decide +kernel
theorem dX1_wallsBetween_10 : decode cX1_wallsBetween 10 = .ok (.if_icmp .ge 32, 3) := by decide +kernel
theorem dX1_wallsBetween_13 : decode cX1_wallsBetween 13 = .ok (.aload_n 0, 1) := by decide +kernel
theorem dX1_wallsBetween_14 : decode cX1_wallsBetween 14 = .ok (.aload_n 1, 1) := by decide +kernel
theorem dX1_wallsBetween_15 : decode cX1_wallsBetween 15 = .ok (.iload 5, 2) := by decide +kernel
theorem dX1_wallsBetween_17 : decode cX1_wallsBetween 17 = .ok (.iload_n 2, 1) := by decide +kernel
theorem dX1_wallsBetween_18 : decode cX1_wallsBetween 18 = .ok (.iload_n 3, 1) := by decide +kernel
theorem dX1_wallsBetween_19 : decode cX1_wallsBetween 19 = .ok (.invokevirtual 94, 3) := by decide +kernel
theorem dX1_wallsBetween_22 : decode cX1_wallsBetween 22 = .ok (.ifCond .eq 14, 3) := by decide +kernel
theorem dX1_wallsBetween_25 : decode cX1_wallsBetween 25 = .ok (.iload 4, 2) := by decide +kernel
theorem dX1_wallsBetween_27 : decode cX1_wallsBetween 27 = .ok (.aload_n 1, 1) := by decide +kernel
theorem dX1_wallsBetween_28 : decode cX1_wallsBetween 28 = .ok (.iload 5, 2) := by decide +kernel
theorem dX1_wallsBetween_30 : decode cX1_wallsBetween 30 = .ok (.invokevirtual 48, 3) := by decide +kernel
theorem dX1_wallsBetween_33 : decode cX1_wallsBetween 33 = .ok (.iadd, 1) := by decide +kernel
theorem dX1_wallsBetween_34 : decode cX1_wallsBetween 34 = .ok (.istore 4, 2) := by decide +kernel
theorem dX1_wallsBetween_36 : decode cX1_wallsBetween 36 = .ok (.iinc 5 1, 3) := by decide +kernel
theorem dX1_wallsBetween_39 : decode cX1_wallsBetween 39 = .ok (.goto (-33), 3) := by decide +kernel
theorem dX1_wallsBetween_42 : decode cX1_wallsBetween 42 = .ok (.iload 4, 2) := by decide +kernel
theorem dX1_wallsBetween_44 : decode cX1_wallsBetween 44 = .ok (.ireturn, 1) := by decide +kernel
theorem dX1_isBetween_0 : decode cX1_isBetween 0 = .ok (.aload_n 0, 1) := by decide +kernel
theorem dX1_isBetween_1 : decode cX1_isBetween 1 = .ok (.getfield 9, 3) := by decide +kernel
theorem dX1_isBetween_4 : decode cX1_isBetween 4 = .ok (.aload_n 1, 1) := by decide +kernel
theorem dX1_isBetween_5 : decode cX1_isBetween 5 = .ok (.iload_n 2, 1) := by decide +kernel
theorem dX1_isBetween_6 : decode cX1_isBetween 6 = .ok (.invokevirtual 39, 3) := by decide +kernel
theorem dX1_isBetween_9 : decode cX1_isBetween 9 = .ok (.iaload, 1) := by decide +kernel
theorem dX1_isBetween_10 : decode cX1_isBetween 10 = .ok (.istore 5, 2) := by decide +kernel
theorem dX1_isBetween_12 : decode cX1_isBetween 12 = .ok (.aload_n 0, 1) := by decide +kernel
theorem dX1_isBetween_13 : decode cX1_isBetween 13 = .ok (.getfield 9, 3) := by decide +kernel
theorem dX1_isBetween_16 : decode cX1_isBetween 16 = .ok (.aload_n 1, 1) := by decide +kernel
theorem dX1_isBetween_17 : decode cX1_isBetween 17 = .ok (.iload_n 2, 1) := by decide +kernel
theorem dX1_isBetween_18 : decode cX1_isBetween 18 = .ok (.invokevirtual 45, 3) := by decide +kernel
theorem dX1_isBetween_21 : decode cX1_isBetween 21 = .ok (.iaload, 1) := by decide +kernel
theorem dX1_isBetween_22 : decode cX1_isBetween 22 = .ok (.istore 6, 2) := by decide +kernel
theorem dX1_isBetween_24 : decode cX1_isBetween 24 = .ok (.iload 5, 2) := by decide +kernel
theorem dX1_isBetween_26 : decode cX1_isBetween 26 = .ok (.iload_n 3, 1) := by decide +kernel
theorem dX1_isBetween_27 : decode cX1_isBetween 27 = .ok (.if_icmp .ne 10, 3) := by decide +kernel
theorem dX1_isBetween_30 : decode cX1_isBetween 30 = .ok (.iload 6, 2) := by decide +kernel
theorem dX1_isBetween_32 : decode cX1_isBetween 32 = .ok (.iload 4, 2) := by decide +kernel
theorem dX1_isBetween_34 : decode cX1_isBetween 34 = .ok (.if_icmp .eq 16, 3) := by decide +kernel
theorem dX1_isBetween_37 : decode cX1_isBetween 37 = .ok (.iload 5, 2) := by decide +kernel
theorem dX1_isBetween_39 : decode cX1_isBetween 39 = .ok (.iload 4, 2) := by decide +kernel
theorem dX1_isBetween_41 : decode cX1_isBetween 41 = .ok (.if_icmp .ne 13, 3) := by decide +kernel
theorem dX1_isBetween_44 : decode cX1_isBetween 44 = .ok (.iload 6, 2) := by decide +kernel
theorem dX1_isBetween_46 : decode cX1_isBetween 46 = .ok (.iload_n 3, 1) := by decide +kernel
theorem dX1_isBetween_47 : decode cX1_isBetween 47 = .ok (.if_icmp .ne 7, 3) := by decide +kernel
theorem dX1_isBetween_50 : decode cX1_isBetween 50 = .ok (.iconst 1, 1) := by decide +kernel
theorem dX1_isBetween_51 : decode cX1_isBetween 51 = .ok (.goto 4, 3) := by decide +kernel
theorem dX1_isBetween_54 : decode cX1_isBetween 54 = .ok (.iconst 0, 1) := by decide +kernel
theorem dX1_isBetween_55 : decode cX1_isBetween 55 = .ok (.ireturn, 1) := by decide +kernel
theorem dX1_neighbours_0 : decode cX1_neighbours 0 = .ok (.iconst 0, 1) := by decide +kernel
theorem dX1_neighbours_1 : decode cX1_neighbours 1 = .ok (.istore_n 3, 1) := by decide +kernel
theorem dX1_neighbours_2 : decode cX1_neighbours 2 = .ok (.iconst 0, 1) := by decide +kernel
theorem dX1_neighbours_3 : decode cX1_neighbours 3 = .ok (.istore 4, 2) := by decide +kernel
theorem dX1_neighbours_5 : decode cX1_neighbours 5 = .ok (.iload 4, 2) := by decide +kernel
theorem dX1_neighbours_7 : decode cX1_neighbours 7 = .ok (.bipush 60, 2) := by decide +kernel
theorem dX1_neighbours_9 : decode cX1_neighbours 9 = .ok (.if_icmp .ge 61, 3) := by decide +kernel
theorem dX1_neighbours_12 : decode cX1_neighbours 12 = .ok (.aload_n 0, 1) := by decide +kernel
theorem dX1_neighbours_13 : decode cX1_neighbours 13 = .ok (.getfield 9, 3) := by decide +kernel
theorem dX1_neighbours_16 : decode cX1_neighbours 16 = .ok (.aload_n 1, 1) := by decide +kernel
theorem dX1_neighbours_17 : decode cX1_neighbours 17 = .ok (.iload 4, 2) := by decide +kernel
theorem dX1_neighbours_19 : decode cX1_neighbours 19 = .ok (.invokevirtual 39, 3) := by decide +kernel
theorem dX1_neighbours_22 : decode cX1_neighbours 22 = .ok (.iaload, 1) := by decide +kernel
theorem dX1_neighbours_23 : decode cX1_neighbours 23 = .ok (.istore 5, 2) := by decide +kernel
theorem dX1_neighbours_25 : decode cX1_neighbours 25 = .ok (.aload_n 0, 1) := by decide +kernel
theorem dX1_neighbours_26 : decode cX1_neighbours 26 = .ok (.getfield 9, 3) := by decide +kernel
theorem dX1_neighbours_29 : decode cX1_neighbours 29 = .ok (.aload_n 1, 1) := by decide +kernel
theorem dX1_neighbours_30 : decode cX1_neighbours 30 = .ok (.iload 4, 2) := by decide +kernel
theorem dX1_neighbours_32 : decode cX1_neighbours 32 = .ok (.invokevirtual 45, 3) := by decide +kernel
theorem dX1_neighbours_35 : decode cX1_neighbours 35 = .ok (.iaload, 1) := by decide +kernel
theorem dX1_neighbours_36 : decode cX1_neighbours 36 = .ok (.istore 6, 2) := by decide +kernel
theorem dX1_neighbours_38 : decode cX1_neighbours 38 = .ok (.iload 5, 2) := by decide +kernel
theorem dX1_neighbours_40 : decode cX1_neighbours 40 = .ok (.iload_n 2, 1) := by decide +kernel
theorem dX1_neighbours_41 : decode cX1_neighbours 41 = .ok (.if_icmp .ne 10, 3) := by decide +kernel
theorem dX1_neighbours_44 : decode cX1_neighbours 44 = .ok (.iload_n 3, 1) := by decide +kernel
theorem dX1_neighbours_45 : decode cX1_neighbours 45 = .ok (.iconst 1, 1) := by decide +kernel
theorem dX1_neighbours_46 : decode cX1_neighbours 46 = .ok (.iload 6, 2) := by decide +kernel
theorem dX1_neighbours_48 : decode cX1_neighbours 48 = .ok (.ishl, 1) := by decide +kernel
theorem dX1_neighbours_49 : decode cX1_neighbours 49 = .ok (.ior, 1) := by decide +kernel
theorem dX1_neighbours_50 : decode cX1_neighbours 50 = .ok (.istore_n 3, 1) := by decide +kernel
theorem dX1_neighbours_51 : decode cX1_neighbours 51 = .ok (.iload 6, 2) := by decide +kernel
theorem dX1_neighbours_53 : decode cX1_neighbours 53 = .ok (.iload_n 2, 1) := by decide +kernel
theorem dX1_neighbours_54 : decode cX1_neighbours 54 = .ok (.if_icmp .ne 10, 3) := by decide +kernel
theorem dX1_neighbours_57 : decode cX1_neighbours 57 = .ok (.iload_n 3, 1) := by decide +kernel
theorem dX1_neighbours_58 : decode cX1_neighbours 58 = .ok (.iconst 1, 1) := by decide +kernel
theorem dX1_neighbours_59 : decode cX1_neighbours 59 = .ok (.iload 5, 2) := by decide +kernel
theorem dX1_neighbours_61 : decode cX1_neighbours 61 = .ok (.ishl, 1) := by decide +kernel
theorem dX1_neighbours_62 : decode cX1_neighbours 62 = .ok (.ior, 1) := by decide +kernel
theorem dX1_neighbours_63 : decode cX1_neighbours 63 = .ok (.istore_n 3, 1) := by decide +kernel
theorem dX1_neighbours_64 : decode cX1_neighbours 64 = .ok (.iinc 4 1, 3) := by decide +kernel
theorem dX1_neighbours_67 : decode cX1_neighbours 67 = .ok (.goto (-62), 3) := by decide +kernel
theorem dX1_neighbours_70 : decode cX1_neighbours 70 = .ok (.iload_n 3, 1) := by decide +kernel
theorem dX1_neighbours_71 : decode cX1_neighbours 71 = .ok (.iconst 1, 1) := by decide +kernel
theorem dX1_neighbours_72 : decode cX1_neighbours 72 = .ok (.iload_n 2, 1) := by decide +kernel
theorem dX1_neighbours_73 : decode cX1_neighbours 73 = .ok (.ishl, 1) := by decide +kernel
theorem dX1_neighbours_74 : decode cX1_neighbours 74 = .ok (.iconst (-1), 1) := by decide +kernel
theorem dX1_neighbours_75 : decode cX1_neighbours 75 = .ok (.ixor, 1) := by decide +kernel
theorem dX1_neighbours_76 : decode cX1_neighbours 76 = .ok (.iand, 1) := by decide +kernel
theorem dX1_neighbours_77 : decode cX1_neighbours 77 = .ok (.invokestatic 98, 3) := by decide +kernel
theorem dX1_neighbours_80 : decode cX1_neighbours 80 = .ok (.ireturn, 1) := by decide +kernel
theorem dX1_cornersOf_0 : decode cX1_cornersOf 0 = .ok (.iconst 0, 1) := by decide +kernel
theorem dX1_cornersOf_1 : decode cX1_cornersOf 1 = .ok (.istore_n 2, 1) := by decide +kernel
theorem dX1_cornersOf_2 : decode cX1_cornersOf 2 = .ok (.iconst 0, 1) := by decide +kernel
theorem dX1_cornersOf_3 : decode cX1_cornersOf 3 = .ok (.istore_n 3, 1) := by decide +kernel
theorem dX1_cornersOf_4 : decode cX1_cornersOf 4 = .ok (.iload_n 3, 1) := by decide +kernel
theorem dX1_cornersOf_5 : decode cX1_cornersOf 5 = .ok (.iconst 5, 1) := by decide +kernel
theorem dX1_cornersOf_6 : decode cX1_cornersOf 6 = .ok (.if_icmp .ge 42, 3) := by decide +kernel
theorem dX1_cornersOf_9 : decode cX1_cornersOf 9 = .ok (.iconst 0, 1) := by decide +kernel
theorem dX1_cornersOf_10 : decode cX1_cornersOf 10 = .ok (.istore 4, 2) := by decide +kernel
theorem dX1_cornersOf_12 : decode cX1_cornersOf 12 = .ok (.iload 4, 2) := by decide +kernel
theorem dX1_cornersOf_14 : decode cX1_cornersOf 14 = .ok (.iconst 5, 1) := by decide +kernel
theorem dX1_cornersOf_15 : decode cX1_cornersOf 15 = .ok (.if_icmp .ge 27, 3) := by decide +kernel
theorem dX1_cornersOf_18 : decode cX1_cornersOf 18 = .ok (.aload_n 0, 1) := by decide +kernel
theorem dX1_cornersOf_19 : decode cX1_cornersOf 19 = .ok (.iload_n 3, 1) := by decide +kernel
theorem dX1_cornersOf_20 : decode cX1_cornersOf 20 = .ok (.bipush 6, 2) := by decide +kernel
theorem dX1_cornersOf_22 : decode cX1_cornersOf 22 = .ok (.imul, 1) := by decide +kernel
theorem dX1_cornersOf_23 : decode cX1_cornersOf 23 = .ok (.iload 4, 2) := by decide +kernel
theorem dX1_cornersOf_25 : decode cX1_cornersOf 25 = .ok (.iadd, 1) := by decide +kernel
theorem dX1_cornersOf_26 : decode cX1_cornersOf 26 = .ok (.invokevirtual 103, 3) := by decide +kernel
theorem dX1_cornersOf_29 : decode cX1_cornersOf 29 = .ok (.iload_n 1, 1) := by decide +kernel
theorem dX1_cornersOf_30 : decode cX1_cornersOf 30 = .ok (.if_icmp .ne 6, 3) := by decide +kernel
theorem dX1_cornersOf_33 : decode cX1_cornersOf 33 = .ok (.iinc 2 1, 3) := by decide +kernel
theorem dX1_cornersOf_36 : decode cX1_cornersOf 36 = .ok (.iinc 4 1, 3) := by decide +kernel
theorem dX1_cornersOf_39 : decode cX1_cornersOf 39 = .ok (.goto (-27), 3) := by decide +kernel
theorem dX1_cornersOf_42 : decode cX1_cornersOf 42 = .ok (.iinc 3 1, 3) := by decide +kernel
theorem dX1_cornersOf_45 : decode cX1_cornersOf 45 = .ok (.goto (-41), 3) := by decide +kernel
theorem dX1_cornersOf_48 : decode cX1_cornersOf 48 = .ok (.iload_n 2, 1) := by decide +kernel
theorem dX1_cornersOf_49 : decode cX1_cornersOf 49 = .ok (.ireturn, 1) := by decide +kernel
theorem dX1_kindsAt_0 : decode cX1_kindsAt 0 = .ok (.iconst 1, 1) := by decide +kernel
theorem dX1_kindsAt_1 : decode cX1_kindsAt 1 = .ok (.aload_n 0, 1) := by decide +kernel
theorem dX1_kindsAt_2 : decode cX1_kindsAt 2 = .ok (.getfield 9, 3) := by decide +kernel
theorem dX1_kindsAt_5 : decode cX1_kindsAt 5 = .ok (.iload_n 1, 1) := by decide +kernel
theorem dX1_kindsAt_6 : decode cX1_kindsAt 6 = .ok (.iaload, 1) := by decide +kernel
theorem dX1_kindsAt_7 : decode cX1_kindsAt 7 = .ok (.ishl, 1) := by decide +kernel
theorem dX1_kindsAt_8 : decode cX1_kindsAt 8 = .ok (.iconst 1, 1) := by decide +kernel
theorem dX1_kindsAt_9 : decode cX1_kindsAt 9 = .ok (.aload_n 0, 1) := by decide +kernel
theorem dX1_kindsAt_10 : decode cX1_kindsAt 10 = .ok (.getfield 9, 3) := by decide +kernel
theorem dX1_kindsAt_13 : decode cX1_kindsAt 13 = .ok (.iload_n 1, 1) := by decide +kernel
theorem dX1_kindsAt_14 : decode cX1_kindsAt 14 = .ok (.iconst 1, 1) := by decide +kernel
theorem dX1_kindsAt_15 : decode cX1_kindsAt 15 = .ok (.iadd, 1) := by decide +kernel
theorem dX1_kindsAt_16 : decode cX1_kindsAt 16 = .ok (.iaload, 1) := by decide +kernel
theorem dX1_kindsAt_17 : decode cX1_kindsAt 17 = .ok (.ishl, 1) := by decide +kernel
theorem dX1_kindsAt_18 : decode cX1_kindsAt 18 = .ok (.ior, 1) := by decide +kernel
theorem dX1_kindsAt_19 : decode cX1_kindsAt 19 = .ok (.istore_n 2, 1) := by decide +kernel
theorem dX1_kindsAt_20 : decode cX1_kindsAt 20 = .ok (.iconst 1, 1) := by decide +kernel
theorem dX1_kindsAt_21 : decode cX1_kindsAt 21 = .ok (.aload_n 0, 1) := by decide +kernel
theorem dX1_kindsAt_22 : decode cX1_kindsAt 22 = .ok (.getfield 9, 3) := by decide +kernel
theorem dX1_kindsAt_25 : decode cX1_kindsAt 25 = .ok (.iload_n 1, 1) := by decide +kernel
theorem dX1_kindsAt_26 : decode cX1_kindsAt 26 = .ok (.bipush 6, 2) := by decide +kernel
theorem dX1_kindsAt_28 : decode cX1_kindsAt 28 = .ok (.iadd, 1) := by decide +kernel
theorem dX1_kindsAt_29 : decode cX1_kindsAt 29 = .ok (.iaload, 1) := by decide +kernel
theorem dX1_kindsAt_30 : decode cX1_kindsAt 30 = .ok (.ishl, 1) := by decide +kernel
theorem dX1_kindsAt_31 : decode cX1_kindsAt 31 = .ok (.iconst 1, 1) := by decide +kernel
theorem dX1_kindsAt_32 : decode cX1_kindsAt 32 = .ok (.aload_n 0, 1) := by decide +kernel
theorem dX1_kindsAt_33 : decode cX1_kindsAt 33 = .ok (.getfield 9, 3) := by decide +kernel
theorem dX1_kindsAt_36 : decode cX1_kindsAt 36 = .ok (.iload_n 1, 1) := by decide +kernel
theorem dX1_kindsAt_37 : decode cX1_kindsAt 37 = .ok (.bipush 6, 2) := by decide +kernel
theorem dX1_kindsAt_39 : decode cX1_kindsAt 39 = .ok (.iadd, 1) := by decide +kernel
theorem dX1_kindsAt_40 : decode cX1_kindsAt 40 = .ok (.iconst 1, 1) := by decide +kernel
theorem dX1_kindsAt_41 : decode cX1_kindsAt 41 = .ok (.iadd, 1) := by decide +kernel
theorem dX1_kindsAt_42 : decode cX1_kindsAt 42 = .ok (.iaload, 1) := by decide +kernel
theorem dX1_kindsAt_43 : decode cX1_kindsAt 43 = .ok (.ishl, 1) := by decide +kernel
theorem dX1_kindsAt_44 : decode cX1_kindsAt 44 = .ok (.ior, 1) := by decide +kernel
theorem dX1_kindsAt_45 : decode cX1_kindsAt 45 = .ok (.istore_n 3, 1) := by decide +kernel
theorem dX1_kindsAt_46 : decode cX1_kindsAt 46 = .ok (.iload_n 2, 1) := by decide +kernel
theorem dX1_kindsAt_47 : decode cX1_kindsAt 47 = .ok (.iload_n 3, 1) := by decide +kernel
theorem dX1_kindsAt_48 : decode cX1_kindsAt 48 = .ok (.ior, 1) := by decide +kernel
theorem dX1_kindsAt_49 : decode cX1_kindsAt 49 = .ok (.invokestatic 98, 3) := by decide +kernel
theorem dX1_kindsAt_52 : decode cX1_kindsAt 52 = .ok (.ireturn, 1) := by decide +kernel
theorem dX2_init_0 : decode cX2_init 0 = .ok (.aload_n 0, 1) := by decide +kernel
theorem dX2_init_1 : decode cX2_init 1 = .ok (.invokespecial 3, 3) := by decide +kernel
theorem dX2_init_4 : decode cX2_init 4 = .ok (.aload_n 0, 1) := by decide +kernel
theorem dX2_init_5 : decode cX2_init 5 = .ok (.bipush 60, 2) := by decide +kernel
theorem dX2_init_7 : decode cX2_init 7 = .ok (.newarray .int, 2) := by decide +kernel
theorem dX2_init_9 : decode cX2_init 9 = .ok (.putfield 9, 3) := by decide +kernel
theorem dX2_init_12 : decode cX2_init 12 = .ok (.aload_n 0, 1) := by decide +kernel
theorem dX2_init_13 : decode cX2_init 13 = .ok (.bipush 60, 2) := by decide +kernel
theorem dX2_init_15 : decode cX2_init 15 = .ok (.newarray .int, 2) := by decide +kernel
theorem dX2_init_17 : decode cX2_init 17 = .ok (.putfield 15, 3) := by decide +kernel
theorem dX2_init_20 : decode cX2_init 20 = .ok (.aload_n 0, 1) := by decide +kernel
theorem dX2_init_21 : decode cX2_init 21 = .ok (.sipush 144, 3) := by decide +kernel
theorem dX2_init_24 : decode cX2_init 24 = .ok (.newarray .int, 2) := by decide +kernel
theorem dX2_init_26 : decode cX2_init 26 = .ok (.putfield 18, 3) := by decide +kernel
theorem dX2_init_29 : decode cX2_init 29 = .ok (.aload_n 0, 1) := by decide +kernel
theorem dX2_init_30 : decode cX2_init 30 = .ok (.bipush 60, 2) := by decide +kernel
theorem dX2_init_32 : decode cX2_init 32 = .ok (.newarray .int, 2) := by decide +kernel
theorem dX2_init_34 : decode cX2_init 34 = .ok (.putfield 21, 3) := by decide +kernel
theorem dX2_init_37 : decode cX2_init 37 = .ok (.aload_n 0, 1) := by decide +kernel
theorem dX2_init_38 : decode cX2_init 38 = .ok (.bipush 60, 2) := by decide +kernel
theorem dX2_init_40 : decode cX2_init 40 = .ok (.newarray .int, 2) := by decide +kernel
theorem dX2_init_42 : decode cX2_init 42 = .ok (.putfield 24, 3) := by decide +kernel
theorem dX2_init_45 : decode cX2_init 45 = .ok (.aload_n 0, 1) := by decide +kernel
theorem dX2_init_46 : decode cX2_init 46 = .ok (.iconst 1, 1) := by decide +kernel
theorem dX2_init_47 : decode cX2_init 47 = .ok (.putfield 27, 3) := by decide +kernel
theorem dX2_init_50 : decode cX2_init 50 = .ok (.aload_n 0, 1) := by decide +kernel
theorem dX2_init_51 : decode cX2_init 51 = .ok (.iconst 1, 1) := by decide +kernel
theorem dX2_init_52 : decode cX2_init 52 = .ok (.putfield 31, 3) := by decide +kernel
theorem dX2_init_55 : decode cX2_init 55 = .ok (.iconst 0, 1) := by decide +kernel
theorem dX2_init_56 : decode cX2_init 56 = .ok (.istore_n 1, 1) := by decide +kernel
theorem dX2_init_57 : decode cX2_init 57 = .ok (.iload_n 1, 1) := by decide +kernel
theorem dX2_init_58 : decode cX2_init 58 = .ok (.sipush 144, 3) := by decide +kernel
theorem dX2_init_61 : decode cX2_init 61 = .ok (.if_icmp .ge 16, 3) := by decide +kernel
theorem dX2_init_64 : decode cX2_init 64 = .ok (.aload_n 0, 1) := by decide +kernel
theorem dX2_init_65 : decode cX2_init 65 = .ok (.getfield 18, 3) := by decide +kernel
theorem dX2_init_68 : decode cX2_init 68 = .ok (.iload_n 1, 1) := by decide +kernel
theorem dX2_init_69 : decode cX2_init 69 = .ok (.iconst (-1), 1) := by decide +kernel
theorem dX2_init_70 : decode cX2_init 70 = .ok (.iastore, 1) := by decide +kernel
theorem dX2_init_71 : decode cX2_init 71 = .ok (.iinc 1 1, 3) := by decide +kernel
theorem dX2_init_74 : decode cX2_init 74 = .ok (.goto (-17), 3) := by decide +kernel
theorem dX2_init_77 : decode cX2_init 77 = .ok (.iconst 0, 1) := by decide +kernel
theorem dX2_init_78 : decode cX2_init 78 = .ok (.istore_n 1, 1) := by decide +kernel
theorem dX2_init_79 : decode cX2_init 79 = .ok (.iload_n 1, 1) := by decide +kernel
theorem dX2_init_80 : decode cX2_init 80 = .ok (.bipush 60, 2) := by decide +kernel
theorem dX2_init_82 : decode cX2_init 82 = .ok (.if_icmp .ge 118, 3) := by decide +kernel
theorem dX2_init_85 : decode cX2_init 85 = .ok (.iload_n 1, 1) := by decide +kernel
theorem dX2_init_86 : decode cX2_init 86 = .ok (.bipush 30, 2) := by decide +kernel
theorem dX2_init_88 : decode cX2_init 88 = .ok (.if_icmp .ge 7, 3) := by decide +kernel
theorem dX2_init_91 : decode cX2_init 91 = .ok (.iconst 1, 1) := by decide +kernel
theorem dX2_init_92 : decode cX2_init 92 = .ok (.goto 4, 3) := by decide +kernel
theorem dX2_init_95 : decode cX2_init 95 = .ok (.iconst 0, 1) := by decide +kernel
theorem dX2_init_96 : decode cX2_init 96 = .ok (.istore_n 2, 1) := by decide +kernel
theorem dX2_init_97 : decode cX2_init 97 = .ok (.iload_n 2, 1) := by decide +kernel
theorem dX2_init_98 : decode cX2_init 98 = .ok (.ifCond .eq 16, 3) := by decide +kernel
theorem dX2_init_101 : decode cX2_init 101 = .ok (.iload_n 1, 1) := by decide +kernel
theorem dX2_init_102 : decode cX2_init 102 = .ok (.iconst 5, 1) := by decide +kernel
theorem dX2_init_103 : decode cX2_init 103 = .ok (.idiv, 1) := by decide +kernel
theorem dX2_init_104 : decode cX2_init 104 = .ok (.bipush 6, 2) := by decide +kernel
theorem dX2_init_106 : decode cX2_init 106 = .ok (.imul, 1) := by decide +kernel
theorem dX2_init_107 : decode cX2_init 107 = .ok (.iload_n 1, 1) := by decide +kernel
theorem dX2_init_108 : decode cX2_init 108 = .ok (.iconst 5, 1) := by decide +kernel
theorem dX2_init_109 : decode cX2_init 109 = .ok (.irem, 1) := by decide +kernel
theorem dX2_init_110 : decode cX2_init 110 = .ok (.iadd, 1) := by decide +kernel
theorem dX2_init_111 : decode cX2_init 111 = .ok (.goto 7, 3) := by decide +kernel
theorem dX2_init_114 : decode cX2_init 114 = .ok (.iload_n 1, 1) := by decide +kernel
theorem dX2_init_115 : decode cX2_init 115 = .ok (.bipush 30, 2) := by decide +kernel
theorem dX2_init_117 : decode cX2_init 117 = .ok (.isub, 1) := by decide +kernel
theorem dX2_init_118 : decode cX2_init 118 = .ok (.istore_n 3, 1) := by decide +kernel
theorem dX2_init_119 : decode cX2_init 119 = .ok (.iload_n 3, 1) := by decide +kernel
theorem dX2_init_120 : decode cX2_init 120 = .ok (.iload_n 2, 1) := by decide +kernel
theorem dX2_init_121 : decode cX2_init 121 = .ok (.ifCond .eq 7, 3) := by decide +kernel
theorem dX2_init_124 : decode cX2_init 124 = .ok (.iconst 1, 1) := by decide +kernel
theorem dX2_init_125 : decode cX2_init 125 = .ok (.goto 5, 3) := by decide +kernel
theorem dX2_init_128 : decode cX2_init 128 = .ok (.bipush 6, 2) := by decide +kernel
theorem dX2_init_130 : decode cX2_init 130 = .ok (.iadd, 1) := by decide +kernel
theorem dX2_init_131 : decode cX2_init 131 = .ok (.istore 4, 2) := by decide +kernel
theorem dX2_init_133 : decode cX2_init 133 = .ok (.aload_n 0, 1) := by decide +kernel
theorem dX2_init_134 : decode cX2_init 134 = .ok (.getfield 9, 3) := by decide +kernel
theorem dX2_init_137 : decode cX2_init 137 = .ok (.iload_n 1, 1) := by decide +kernel
theorem dX2_init_138 : decode cX2_init 138 = .ok (.iload_n 3, 1) := by decide +kernel
theorem dX2_init_139 : decode cX2_init 139 = .ok (.iastore, 1) := by decide +kernel
theorem dX2_init_140 : decode cX2_init 140 = .ok (.aload_n 0, 1) := by decide +kernel
theorem dX2_init_141 : decode cX2_init 141 = .ok (.getfield 15, 3) := by decide +kernel
theorem dX2_init_144 : decode cX2_init 144 = .ok (.iload_n 1, 1) := by decide +kernel
theorem dX2_init_145 : decode cX2_init 145 = .ok (.iload 4, 2) := by decide +kernel
theorem dX2_init_147 : decode cX2_init 147 = .ok (.iastore, 1) := by decide +kernel
theorem dX2_init_148 : decode cX2_init 148 = .ok (.aload_n 0, 1) := by decide +kernel
theorem dX2_init_149 : decode cX2_init 149 = .ok (.getfield 18, 3) := by decide +kernel
theorem dX2_init_152 : decode cX2_init 152 = .ok (.iload_n 3, 1) := by decide +kernel
theorem dX2_init_153 : decode cX2_init 153 = .ok (.iconst 4, 1) := by decide +kernel
theorem dX2_init_154 : decode cX2_init 154 = .ok (.imul, 1) := by decide +kernel
theorem dX2_init_155 : decode cX2_init 155 = .ok (.iload_n 2, 1) := by decide +kernel
theorem dX2_init_156 : decode cX2_init 156 = .ok (.ifCond .eq 7, 3) := by decide +kernel
theorem dX2_init_159 : decode cX2_init 159 = .ok (.iconst 0, 1) := by decide +kernel
theorem dX2_init_160 : decode cX2_init 160 = .ok (.goto 4, 3) := by decide +kernel
theorem dX2_init_163 : decode cX2_init 163 = .ok (.iconst 1, 1) := by decide +kernel
theorem dX2_init_164 : decode cX2_init 164 = .ok (.iadd, 1) := by decide +kernel
theorem dX2_init_165 : decode cX2_init 165 = .ok (.iload_n 1, 1) := by decide +kernel
theorem dX2_init_166 : decode cX2_init 166 = .ok (.iastore, 1) := by decide +kernel
theorem dX2_init_167 : decode cX2_init 167 = .ok (.aload_n 0, 1) := by decide +kernel
theorem dX2_init_168 : decode cX2_init 168 = .ok (.getfield 18, 3) := by decide +kernel
theorem dX2_init_171 : decode cX2_init 171 = .ok (.iload 4, 2) := by decide +kernel
theorem dX2_init_173 : decode cX2_init 173 = .ok (.iconst 4, 1) := by decide +kernel
theorem dX2_init_174 : decode cX2_init 174 = .ok (.imul, 1) := by decide +kernel
theorem dX2_init_175 : decode cX2_init 175 = .ok (.iload_n 2, 1) := by decide +kernel
theorem dX2_init_176 : decode cX2_init 176 = .ok (.ifCond .eq 7, 3) := by decide +kernel
theorem dX2_init_179 : decode cX2_init 179 = .ok (.iconst 2, 1) := by decide +kernel
theorem dX2_init_180 : decode cX2_init 180 = .ok (.goto 4, 3) := by decide +kernel
theorem dX2_init_183 : decode cX2_init 183 = .ok (.iconst 3, 1) := by decide +kernel
theorem dX2_init_184 : decode cX2_init 184 = .ok (.iadd, 1) := by decide +kernel
theorem dX2_init_185 : decode cX2_init 185 = .ok (.iload_n 1, 1) := by decide +kernel
theorem dX2_init_186 : decode cX2_init 186 = .ok (.iastore, 1) := by decide +kernel
theorem dX2_init_187 : decode cX2_init 187 = .ok (.aload_n 0, 1) := by decide +kernel
theorem dX2_init_188 : decode cX2_init 188 = .ok (.getfield 24, 3) := by decide +kernel
theorem dX2_init_191 : decode cX2_init 191 = .ok (.iload_n 1, 1) := by decide +kernel
theorem dX2_init_192 : decode cX2_init 192 = .ok (.iconst 1, 1) := by decide +kernel
theorem dX2_init_193 : decode cX2_init 193 = .ok (.iastore, 1) := by decide +kernel
theorem dX2_init_194 : decode cX2_init 194 = .ok (.iinc 1 1, 3) := by decide +kernel
theorem dX2_init_197 : decode cX2_init 197 = .ok (.goto (-118), 3) := by decide +kernel
theorem dX2_init_200 : decode cX2_init 200 = .ok (.return_, 1) := by decide +kernel
theorem dX2_price_0 : decode cX2_price 0 = .ok (.aload_n 0, 1) := by decide +kernel
theorem dX2_price_1 : decode cX2_price 1 = .ok (.getfield 24, 3) := by decide +kernel
theorem dX2_price_4 : decode cX2_price 4 = .ok (.iload_n 1, 1) := by decide +kernel
theorem dX2_price_5 : decode cX2_price 5 = .ok (.iaload, 1) := by decide +kernel
theorem dX2_price_6 : decode cX2_price 6 = .ok (.ireturn, 1) := by decide +kernel
theorem dX2_changeDirection_0 : decode cX2_changeDirection 0 = .ok (.iload_n 1, 1) := by decide +kernel
theorem dX2_changeDirection_1 : decode cX2_changeDirection 1 = .ok (.ifCond .ne 10, 3) := by decide +kernel
theorem dX2_changeDirection_4 : decode cX2_changeDirection 4 = .ok (.aload_n 0, 1) := by decide +kernel
theorem dX2_changeDirection_5 : decode cX2_changeDirection 5 = .ok (.getfield 27, 3) := by decide +kernel
theorem dX2_changeDirection_8 : decode cX2_changeDirection 8 = .ok (.goto 7, 3) := by decide +kernel
theorem dX2_changeDirection_11 : decode cX2_changeDirection 11 = .ok (.aload_n 0, 1) := by decide +kernel
theorem dX2_changeDirection_12 : decode cX2_changeDirection 12 = .ok (.getfield 31, 3) := by decide +kernel
theorem dX2_changeDirection_15 : decode cX2_changeDirection 15 = .ok (.istore_n 3, 1) := by decide +kernel
theorem dX2_changeDirection_16 : decode cX2_changeDirection 16 = .ok (.iload_n 1, 1) := by decide +kernel
theorem dX2_changeDirection_17 : decode cX2_changeDirection 17 = .ok (.ifCond .ne 11, 3) := by decide +kernel
theorem dX2_changeDirection_20 : decode cX2_changeDirection 20 = .ok (.aload_n 0, 1) := by decide +kernel
theorem dX2_changeDirection_21 : decode cX2_changeDirection 21 = .ok (.iload_n 2, 1) := by decide +kernel
theorem dX2_changeDirection_22 : decode cX2_changeDirection 22 = .ok (.putfield 27, 3) := by decide +kernel
theorem dX2_changeDirection_25 : decode cX2_changeDirection 25 = .ok (.goto 8, 3) := by decide +kernel
theorem dX2_changeDirection_28 : decode cX2_changeDirection 28 = .ok (.aload_n 0, 1) := by decide +kernel
theorem dX2_changeDirection_29 : decode cX2_changeDirection 29 = .ok (.iload_n 2, 1) := by decide +kernel
theorem dX2_changeDirection_30 : decode cX2_changeDirection 30 = .ok (.putfield 31, 3) := by decide +kernel
theorem dX2_changeDirection_33 : decode cX2_changeDirection 33 = .ok (.iconst 0, 1) := by decide +kernel
theorem dX2_changeDirection_34 : decode cX2_changeDirection 34 = .ok (.istore 4, 2) := by decide +kernel
theorem dX2_changeDirection_36 : decode cX2_changeDirection 36 = .ok (.iload 4, 2) := by decide +kernel
theorem dX2_changeDirection_38 : decode cX2_changeDirection 38 = .ok (.bipush 60, 2) := by decide +kernel
theorem dX2_changeDirection_40 : decode cX2_changeDirection 40 = .ok (.if_icmp .ge 42, 3) := by decide +kernel
theorem dX2_changeDirection_43 : decode cX2_changeDirection 43 = .ok (.aload_n 0, 1) := by decide +kernel
theorem dX2_changeDirection_44 : decode cX2_changeDirection 44 = .ok (.getfield 24, 3) := by decide +kernel
theorem dX2_changeDirection_47 : decode cX2_changeDirection 47 = .ok (.iload 4, 2) := by decide +kernel
theorem dX2_changeDirection_49 : decode cX2_changeDirection 49 = .ok (.aload_n 0, 1) := by decide +kernel
theorem dX2_changeDirection_50 : decode cX2_changeDirection 50 = .ok (.getfield 21, 3) := by decide +kernel
theorem dX2_changeDirection_53 : decode cX2_changeDirection 53 = .ok (.iload 4, 2) := by decide +kernel
theorem dX2_changeDirection_55 : decode cX2_changeDirection 55 = .ok (.iaload, 1) := by decide +kernel
theorem dX2_changeDirection_56 : decode cX2_changeDirection 56 = .ok (.iload 4, 2) := by decide +kernel
theorem dX2_changeDirection_58 : decode cX2_changeDirection 58 = .ok (.bipush 30, 2) := by decide +kernel
theorem dX2_changeDirection_60 : decode cX2_changeDirection 60 = .ok (.if_icmp .ge 10, 3) := by decide +kernel
theorem dX2_changeDirection_63 : decode cX2_changeDirection 63 = .ok (.aload_n 0, 1) := by decide +kernel
theorem dX2_changeDirection_64 : decode cX2_changeDirection 64 = .ok (.getfield 27, 3) := by decide +kernel
theorem dX2_changeDirection_67 : decode cX2_changeDirection 67 = .ok (.goto 7, 3) := by decide +kernel
theorem dX2_changeDirection_70 : decode cX2_changeDirection 70 = .ok (.aload_n 0, 1) := by decide +kernel
theorem dX2_changeDirection_71 : decode cX2_changeDirection 71 = .ok (.getfield 31, 3) := by decide +kernel
theorem dX2_changeDirection_74 : decode cX2_changeDirection 74 = .ok (.iadd, 1) := by decide +kernel
theorem dX2_changeDirection_75 : decode cX2_changeDirection 75 = .ok (.iastore, 1) := by decide +kernel
theorem dX2_changeDirection_76 : decode cX2_changeDirection 76 = .ok (.iinc 4 1, 3) := by decide +kernel
theorem dX2_changeDirection_79 : decode cX2_changeDirection 79 = .ok (.goto (-43), 3) := by decide +kernel
theorem dX2_changeDirection_82 : decode cX2_changeDirection 82 = .ok (.iload_n 3, 1) := by decide +kernel
theorem dX2_changeDirection_83 : decode cX2_changeDirection 83 = .ok (.ireturn, 1) := by decide +kernel
theorem dX2_changeLaid_0 : decode cX2_changeLaid 0 = .ok (.aload_n 0, 1) := by decide +kernel
theorem dX2_changeLaid_1 : decode cX2_changeLaid 1 = .ok (.getfield 21, 3) := by decide +kernel
theorem dX2_changeLaid_4 : decode cX2_changeLaid 4 = .ok (.iload_n 1, 1) := by decide +kernel
theorem dX2_changeLaid_5 : decode cX2_changeLaid 5 = .ok (.iaload, 1) := by decide +kernel
theorem dX2_changeLaid_6 : decode cX2_changeLaid 6 = .ok (.istore_n 3, 1) := by decide +kernel
theorem dX2_changeLaid_7 : decode cX2_changeLaid 7 = .ok (.aload_n 0, 1) := by decide +kernel
theorem dX2_changeLaid_8 : decode cX2_changeLaid 8 = .ok (.getfield 21, 3) := by decide +kernel
theorem dX2_changeLaid_11 : decode cX2_changeLaid 11 = .ok (.iload_n 1, 1) := by decide +kernel
theorem dX2_changeLaid_12 : decode cX2_changeLaid 12 = .ok (.iload_n 2, 1) := by decide +kernel
theorem dX2_changeLaid_13 : decode cX2_changeLaid 13 = .ok (.iastore, 1) := by decide +kernel
theorem dX2_changeLaid_14 : decode cX2_changeLaid 14 = .ok (.aload_n 0, 1) := by decide +kernel
theorem dX2_changeLaid_15 : decode cX2_changeLaid 15 = .ok (.getfield 24, 3) := by decide +kernel
theorem dX2_changeLaid_18 : decode cX2_changeLaid 18 = .ok (.iload_n 1, 1) := by decide +kernel
theorem dX2_changeLaid_19 : decode cX2_changeLaid 19 = .ok (.iload_n 2, 1) := by decide +kernel
theorem dX2_changeLaid_20 : decode cX2_changeLaid 20 = .ok (.iload_n 1, 1) := by decide +kernel
theorem dX2_changeLaid_21 : decode cX2_changeLaid 21 = .ok (.bipush 30, 2) := by decide +kernel
theorem dX2_changeLaid_23 : decode cX2_changeLaid 23 = .ok (.if_icmp .ge 10, 3) := by decide +kernel
theorem dX2_changeLaid_26 : decode cX2_changeLaid 26 = .ok (.aload_n 0, 1) := by decide +kernel
theorem dX2_changeLaid_27 : decode cX2_changeLaid 27 = .ok (.getfield 27, 3) := by decide +kernel
theorem dX2_changeLaid_30 : decode cX2_changeLaid 30 = .ok (.goto 7, 3) := by decide +kernel
theorem dX2_changeLaid_33 : decode cX2_changeLaid 33 = .ok (.aload_n 0, 1) := by decide +kernel
theorem dX2_changeLaid_34 : decode cX2_changeLaid 34 = .ok (.getfield 31, 3) := by decide +kernel
theorem dX2_changeLaid_37 : decode cX2_changeLaid 37 = .ok (.iadd, 1) := by decide +kernel
theorem dX2_changeLaid_38 : decode cX2_changeLaid 38 = .ok (.iastore, 1) := by decide +kernel
theorem dX2_changeLaid_39 : decode cX2_changeLaid 39 = .ok (.iload_n 3, 1) := by decide +kernel
theorem dX2_changeLaid_40 : decode cX2_changeLaid 40 = .ok (.ireturn, 1) := by decide +kernel
theorem dX2_low_0 : decode cX2_low 0 = .ok (.aload_n 0, 1) := by decide +kernel
theorem dX2_low_1 : decode cX2_low 1 = .ok (.getfield 9, 3) := by decide +kernel
theorem dX2_low_4 : decode cX2_low 4 = .ok (.iload_n 1, 1) := by decide +kernel
theorem dX2_low_5 : decode cX2_low 5 = .ok (.iaload, 1) := by decide +kernel
theorem dX2_low_6 : decode cX2_low 6 = .ok (.ireturn, 1) := by decide +kernel
theorem dX2_high_0 : decode cX2_high 0 = .ok (.aload_n 0, 1) := by decide +kernel
theorem dX2_high_1 : decode cX2_high 1 = .ok (.getfield 15, 3) := by decide +kernel
theorem dX2_high_4 : decode cX2_high 4 = .ok (.iload_n 1, 1) := by decide +kernel
theorem dX2_high_5 : decode cX2_high 5 = .ok (.iaload, 1) := by decide +kernel
theorem dX2_high_6 : decode cX2_high 6 = .ok (.ireturn, 1) := by decide +kernel
theorem dX2_otherEnd_0 : decode cX2_otherEnd 0 = .ok (.iload_n 2, 1) := by decide +kernel
theorem dX2_otherEnd_1 : decode cX2_otherEnd 1 = .ok (.aload_n 0, 1) := by decide +kernel
theorem dX2_otherEnd_2 : decode cX2_otherEnd 2 = .ok (.getfield 9, 3) := by decide +kernel
theorem dX2_otherEnd_5 : decode cX2_otherEnd 5 = .ok (.iload_n 1, 1) := by decide +kernel
theorem dX2_otherEnd_6 : decode cX2_otherEnd 6 = .ok (.iaload, 1) := by decide +kernel
theorem dX2_otherEnd_7 : decode cX2_otherEnd 7 = .ok (.if_icmp .ne 12, 3) := by decide +kernel
theorem dX2_otherEnd_10 : decode cX2_otherEnd 10 = .ok (.aload_n 0, 1) := by decide +kernel
theorem dX2_otherEnd_11 : decode cX2_otherEnd 11 = .ok (.getfield 15, 3) := by decide +kernel
theorem dX2_otherEnd_14 : decode cX2_otherEnd 14 = .ok (.iload_n 1, 1) := by decide +kernel
theorem dX2_otherEnd_15 : decode cX2_otherEnd 15 = .ok (.iaload, 1) := by decide +kernel
theorem dX2_otherEnd_16 : decode cX2_otherEnd 16 = .ok (.goto 9, 3) := by decide +kernel
theorem dX2_otherEnd_19 : decode cX2_otherEnd 19 = .ok (.aload_n 0, 1) := by decide +kernel
theorem dX2_otherEnd_20 : decode cX2_otherEnd 20 = .ok (.getfield 9, 3) := by decide +kernel
theorem dX2_otherEnd_23 : decode cX2_otherEnd 23 = .ok (.iload_n 1, 1) := by decide +kernel
theorem dX2_otherEnd_24 : decode cX2_otherEnd 24 = .ok (.iaload, 1) := by decide +kernel
theorem dX2_otherEnd_25 : decode cX2_otherEnd 25 = .ok (.ireturn, 1) := by decide +kernel
theorem dX2_beside_0 : decode cX2_beside 0 = .ok (.aload_n 0, 1) := by decide +kernel
theorem dX2_beside_1 : decode cX2_beside 1 = .ok (.getfield 18, 3) := by decide +kernel
theorem dX2_beside_4 : decode cX2_beside 4 = .ok (.iload_n 1, 1) := by decide +kernel
theorem dX2_beside_5 : decode cX2_beside 5 = .ok (.iconst 4, 1) := by decide +kernel
theorem dX2_beside_6 : decode cX2_beside 6 = .ok (.imul, 1) := by decide +kernel
theorem dX2_beside_7 : decode cX2_beside 7 = .ok (.iload_n 2, 1) := by decide +kernel
theorem dX2_beside_8 : decode cX2_beside 8 = .ok (.iadd, 1) := by decide +kernel
theorem dX2_beside_9 : decode cX2_beside 9 = .ok (.iaload, 1) := by decide +kernel
theorem dX2_beside_10 : decode cX2_beside 10 = .ok (.ireturn, 1) := by decide +kernel
theorem dX2_measure_0 : decode cX2_measure 0 = .ok (.iconst 0, 1) := by decide +kernel
theorem dX2_measure_1 : decode cX2_measure 1 = .ok (.istore 4, 2) := by decide +kernel
theorem dX2_measure_3 : decode cX2_measure 3 = .ok (.iload 4, 2) := by decide +kernel
theorem dX2_measure_5 : decode cX2_measure 5 = .ok (.bipush 36, 2) := by decide +kernel
theorem dX2_measure_7 : decode cX2_measure 7 = .ok (.if_icmp .ge 27, 3) := by decide +kernel
theorem dX2_measure_10 : decode cX2_measure 10 = .ok (.aload_n 1, 1) := by decide +kernel
theorem dX2_measure_11 : decode cX2_measure 11 = .ok (.iload_n 2, 1) := by decide +kernel
theorem dX2_measure_12 : decode cX2_measure 12 = .ok (.iload 4, 2) := by decide +kernel
theorem dX2_measure_14 : decode cX2_measure 14 = .ok (.iadd, 1) := by decide +kernel
theorem dX2_measure_15 : decode cX2_measure 15 = .ok (.iload 4, 2) := by decide +kernel
theorem dX2_measure_17 : decode cX2_measure 17 = .ok (.iload_n 3, 1) := by decide +kernel
theorem dX2_measure_18 : decode cX2_measure 18 = .ok (.if_icmp .ne 7, 3) := by decide +kernel
theorem dX2_measure_21 : decode cX2_measure 21 = .ok (.iconst 0, 1) := by decide +kernel
theorem dX2_measure_22 : decode cX2_measure 22 = .ok (.goto 5, 3) := by decide +kernel
theorem dX2_measure_25 : decode cX2_measure 25 = .ok (.ldc 34, 2) := by decide +kernel
theorem dX2_measure_27 : decode cX2_measure 27 = .ok (.iastore, 1) := by decide +kernel
theorem dX2_measure_28 : decode cX2_measure 28 = .ok (.iinc 4 1, 3) := by decide +kernel
theorem dX2_measure_31 : decode cX2_measure 31 = .ok (.goto (-28), 3) := by decide +kernel
theorem dX2_measure_34 : decode cX2_measure 34 = .ok (.aload_n 0, 1) := by decide +kernel
theorem dX2_measure_35 : decode cX2_measure 35 = .ok (.aload_n 1, 1) := by decide +kernel
theorem dX2_measure_36 : decode cX2_measure 36 = .ok (.iload_n 2, 1) := by decide +kernel
theorem dX2_measure_37 : decode cX2_measure 37 = .ok (.invokevirtual 35, 3) := by decide +kernel
theorem dX2_measure_40 : decode cX2_measure 40 = .ok (.return_, 1) := by decide +kernel
theorem dX2_settle_0 : decode cX2_settle 0 = .ok (.iconst 1, 1) := by decide +kernel
theorem dX2_settle_1 : decode cX2_settle 1 = .ok (.istore_n 3, 1) := by decide +kernel
theorem dX2_settle_2 : decode cX2_settle 2 = .ok (.iconst 0, 1) := by decide +kernel
theorem dX2_settle_3 : decode cX2_settle 3 = .ok (.istore 4, 2) := by decide +kernel
theorem dX2_settle_5 : decode cX2_settle 5 = .ok (.iload 4, 2) := by decide +kernel
theorem dX2_settle_7 : decode cX2_settle 7 = .ok (.bipush 36, 2) := by decide +kernel
theorem dX2_settle_9 : decode cX2_settle 9 = .ok (.if_icmp .ge 68, 3) := by decide +kernel
theorem dX2_settle_12 : decode cX2_settle 12 = .ok (.iload_n 3, 1) := by decide +kernel
theorem dX2_settle_13 : decode cX2_settle 13 = .ok (.ifCond .eq 64, 3) := by decide +kernel
theorem dX2_settle_16 : decode cX2_settle 16 = .ok (.iconst 0, 1) := by decide +kernel
theorem dX2_settle_17 : decode cX2_settle 17 = .ok (.istore_n 3, 1) := by decide +kernel
theorem dX2_settle_18 : decode cX2_settle 18 = .ok (.iconst 0, 1) := by decide +kernel
theorem dX2_settle_19 : decode cX2_settle 19 = .ok (.istore 5, 2) := by decide +kernel
theorem dX2_settle_21 : decode cX2_settle 21 = .ok (.iload 5, 2) := by decide +kernel
theorem dX2_settle_23 : decode cX2_settle 23 = .ok (.bipush 60, 2) := by decide +kernel
theorem dX2_settle_25 : decode cX2_settle 25 = .ok (.if_icmp .ge 20, 3) := by decide +kernel
theorem dX2_settle_28 : decode cX2_settle 28 = .ok (.iload_n 3, 1) := by decide +kernel
theorem dX2_settle_29 : decode cX2_settle 29 = .ok (.aload_n 0, 1) := by decide +kernel
theorem dX2_settle_30 : decode cX2_settle 30 = .ok (.aload_n 1, 1) := by decide +kernel
theorem dX2_settle_31 : decode cX2_settle 31 = .ok (.iload_n 2, 1) := by decide +kernel
theorem dX2_settle_32 : decode cX2_settle 32 = .ok (.iload 5, 2) := by decide +kernel
theorem dX2_settle_34 : decode cX2_settle 34 = .ok (.invokevirtual 39, 3) := by decide +kernel
theorem dX2_settle_37 : decode cX2_settle 37 = .ok (.ior, 1) := by decide +kernel
theorem dX2_settle_38 : decode cX2_settle 38 = .ok (.istore_n 3, 1) := by decide +kernel
theorem dX2_settle_39 : decode cX2_settle 39 = .ok (.iinc 5 1, 3) := by decide +kernel
theorem dX2_settle_42 : decode cX2_settle 42 = .ok (.goto (-21), 3) := by decide +kernel
theorem dX2_settle_45 : decode cX2_settle 45 = .ok (.bipush 59, 2) := by decide +kernel
theorem dX2_settle_47 : decode cX2_settle 47 = .ok (.istore 5, 2) := by decide +kernel
theorem dX2_settle_49 : decode cX2_settle 49 = .ok (.iload 5, 2) := by decide +kernel
theorem dX2_settle_51 : decode cX2_settle 51 = .ok (.ifCond .lt 20, 3) := by decide +kernel
theorem dX2_settle_54 : decode cX2_settle 54 = .ok (.iload_n 3, 1) := by decide +kernel
theorem dX2_settle_55 : decode cX2_settle 55 = .ok (.aload_n 0, 1) := by decide +kernel
theorem dX2_settle_56 : decode cX2_settle 56 = .ok (.aload_n 1, 1) := by decide +kernel
theorem dX2_settle_57 : decode cX2_settle 57 = .ok (.iload_n 2, 1) := by decide +kernel
theorem dX2_settle_58 : decode cX2_settle 58 = .ok (.iload 5, 2) := by decide +kernel
theorem dX2_settle_60 : decode cX2_settle 60 = .ok (.invokevirtual 39, 3) := by decide +kernel
theorem dX2_settle_63 : decode cX2_settle 63 = .ok (.ior, 1) := by decide +kernel
theorem dX2_settle_64 : decode cX2_settle 64 = .ok (.istore_n 3, 1) := by decide +kernel
theorem dX2_settle_65 : decode cX2_settle 65 = .ok (.iinc 5 (-1), 3) := by decide +kernel
theorem dX2_settle_68 : decode cX2_settle 68 = .ok (.goto (-19), 3) := by decide +kernel
theorem dX2_settle_71 : decode cX2_settle 71 = .ok (.iinc 4 1, 3) := by decide +kernel
theorem dX2_settle_74 : decode cX2_settle 74 = .ok (.goto (-69), 3) := by decide +kernel
theorem dX2_settle_77 : decode cX2_settle 77 = .ok (.return_, 1) := by decide +kernel
theorem dX2_lower_0 : decode cX2_lower 0 = .ok (.iload_n 2, 1) := by decide +kernel
theorem dX2_lower_1 : decode cX2_lower 1 = .ok (.aload_n 0, 1) := by decide +kernel
theorem dX2_lower_2 : decode cX2_lower 2 = .ok (.getfield 9, 3) := by decide +kernel
theorem dX2_lower_5 : decode cX2_lower 5 = .ok (.iload_n 3, 1) := by decide +kernel
theorem dX2_lower_6 : decode cX2_lower 6 = .ok (.iaload, 1) := by decide +kernel
theorem dX2_lower_7 : decode cX2_lower 7 = .ok (.iadd, 1) := by decide +kernel
theorem dX2_lower_8 : decode cX2_lower 8 = .ok (.istore 4, 2) := by decide +kernel
theorem dX2_lower_10 : decode cX2_lower 10 = .ok (.iload_n 2, 1) := by decide +kernel
theorem dX2_lower_11 : decode cX2_lower 11 = .ok (.aload_n 0, 1) := by decide +kernel
theorem dX2_lower_12 : decode cX2_lower 12 = .ok (.getfield 15, 3) := by decide +kernel
theorem dX2_lower_15 : decode cX2_lower 15 = .ok (.iload_n 3, 1) := by decide +kernel
theorem dX2_lower_16 : decode cX2_lower 16 = .ok (.iaload, 1) := by decide +kernel
theorem dX2_lower_17 : decode cX2_lower 17 = .ok (.iadd, 1) := by decide +kernel
theorem dX2_lower_18 : decode cX2_lower 18 = .ok (.istore 5, 2) := by decide +kernel
theorem dX2_lower_20 : decode cX2_lower 20 = .ok (.aload_n 0, 1) := by decide +kernel
theorem dX2_lower_21 : decode cX2_lower 21 = .ok (.getfield 24, 3) := by decide +kernel
theorem dX2_lower_24 : decode cX2_lower 24 = .ok (.iload_n 3, 1) := by decide +kernel
theorem dX2_lower_25 : decode cX2_lower 25 = .ok (.iaload, 1) := by decide +kernel
theorem dX2_lower_26 : decode cX2_lower 26 = .ok (.istore 6, 2) := by decide +kernel
theorem dX2_lower_28 : decode cX2_lower 28 = .ok (.aload_n 1, 1) := by decide +kernel
theorem dX2_lower_29 : decode cX2_lower 29 = .ok (.iload 4, 2) := by decide +kernel
theorem dX2_lower_31 : decode cX2_lower 31 = .ok (.iaload, 1) := by decide +kernel
theorem dX2_lower_32 : decode cX2_lower 32 = .ok (.iload 6, 2) := by decide +kernel
theorem dX2_lower_34 : decode cX2_lower 34 = .ok (.iadd, 1) := by decide +kernel
theorem dX2_lower_35 : decode cX2_lower 35 = .ok (.aload_n 1, 1) := by decide +kernel
theorem dX2_lower_36 : decode cX2_lower 36 = .ok (.iload 5, 2) := by decide +kernel
theorem dX2_lower_38 : decode cX2_lower 38 = .ok (.iaload, 1) := by decide +kernel
theorem dX2_lower_39 : decode cX2_lower 39 = .ok (.if_icmp .ge 16, 3) := by decide +kernel
theorem dX2_lower_42 : decode cX2_lower 42 = .ok (.aload_n 1, 1) := by decide +kernel
theorem dX2_lower_43 : decode cX2_lower 43 = .ok (.iload 5, 2) := by decide +kernel
theorem dX2_lower_45 : decode cX2_lower 45 = .ok (.aload_n 1, 1) := by decide +kernel
theorem dX2_lower_46 : decode cX2_lower 46 = .ok (.iload 4, 2) := by decide +kernel
theorem dX2_lower_48 : decode cX2_lower 48 = .ok (.iaload, 1) := by decide +kernel
theorem dX2_lower_49 : decode cX2_lower 49 = .ok (.iload 6, 2) := by decide +kernel
theorem dX2_lower_51 : decode cX2_lower 51 = .ok (.iadd, 1) := by decide +kernel
theorem dX2_lower_52 : decode cX2_lower 52 = .ok (.iastore, 1) := by decide +kernel
theorem dX2_lower_53 : decode cX2_lower 53 = .ok (.iconst 1, 1) := by decide +kernel
theorem dX2_lower_54 : decode cX2_lower 54 = .ok (.ireturn, 1) := by decide +kernel
theorem dX2_lower_55 : decode cX2_lower 55 = .ok (.aload_n 1, 1) := by decide +kernel
theorem dX2_lower_56 : decode cX2_lower 56 = .ok (.iload 5, 2) := by decide +kernel
theorem dX2_lower_58 : decode cX2_lower 58 = .ok (.iaload, 1) := by decide +kernel
theorem dX2_lower_59 : decode cX2_lower 59 = .ok (.iload 6, 2) := by decide +kernel
theorem dX2_lower_61 : decode cX2_lower 61 = .ok (.iadd, 1) := by decide +kernel
theorem dX2_lower_62 : decode cX2_lower 62 = .ok (.aload_n 1, 1) := by decide +kernel
theorem dX2_lower_63 : decode cX2_lower 63 = .ok (.iload 4, 2) := by decide +kernel
theorem dX2_lower_65 : decode cX2_lower 65 = .ok (.iaload, 1) := by decide +kernel
theorem dX2_lower_66 : decode cX2_lower 66 = .ok (.if_icmp .ge 16, 3) := by decide +kernel
theorem dX2_lower_69 : decode cX2_lower 69 = .ok (.aload_n 1, 1) := by decide +kernel
theorem dX2_lower_70 : decode cX2_lower 70 = .ok (.iload 4, 2) := by decide +kernel
theorem dX2_lower_72 : decode cX2_lower 72 = .ok (.aload_n 1, 1) := by decide +kernel
theorem dX2_lower_73 : decode cX2_lower 73 = .ok (.iload 5, 2) := by decide +kernel
theorem dX2_lower_75 : decode cX2_lower 75 = .ok (.iaload, 1) := by decide +kernel
theorem dX2_lower_76 : decode cX2_lower 76 = .ok (.iload 6, 2) := by decide +kernel
