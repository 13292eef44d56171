theorem dL_cost_0 : decode cL_cost 0 = .ok (.aload_n 0, 1) := by decide +kernel
theorem dL_cost_1 : decode cL_cost 1 = .ok (.iload_n 1, 1) := by decide +kernel
theorem dL_cost_2 : decode cL_cost 2 = .ok (.iload_n 2, 1) := by decide +kernel
theorem dL_cost_3 : decode cL_cost 3 = .ok (.invokevirtual 7, 3) := by decide +kernel
theorem dL_cost_6 : decode cL_cost 6 = .ok (.ireturn, 1) := by decide +kernel
theorem dL_cost_7 : decode cL_cost 7 = .ok (.astore_n 3, 1) := by decide +kernel
theorem dL_cost_8 : decode cL_cost 8 = .ok (.ldc 15, 2) := by decide +kernel
theorem dL_cost_10 : decode cL_cost 10 = .ok (.ireturn, 1) := by decide +kernel
theorem dL_lay_0 : decode cL_lay 0 = .ok (.aload_n 0, 1) := by decide +kernel
theorem dL_lay_1 : decode cL_lay 1 = .ok (.iload_n 1, 1) := by decide +kernel
theorem dL_lay_2 : decode cL_lay 2 = .ok (.iload_n 2, 1) := by decide +kernel
theorem dL_lay_3 : decode cL_lay 3 = .ok (.invokevirtual 16, 3) := by decide +kernel
theorem dL_lay_6 : decode cL_lay 6 = .ok (.ireturn, 1) := by decide +kernel
theorem dL_lay_7 : decode cL_lay 7 = .ok (.astore_n 3, 1) := by decide +kernel
theorem dL_lay_8 : decode cL_lay 8 = .ok (.ldc 21, 2) := by decide +kernel
theorem dL_lay_10 : decode cL_lay 10 = .ok (.ireturn, 1) := by decide +kernel
theorem dL_lay_11 : decode cL_lay 11 = .ok (.astore_n 3, 1) := by decide +kernel
theorem dL_lay_12 : decode cL_lay 12 = .ok (.ldc 15, 2) := by decide +kernel
theorem dL_lay_14 : decode cL_lay 14 = .ok (.ireturn, 1) := by decide +kernel
theorem dL_edge_0 : decode cL_edge 0 = .ok (.aload_n 0, 1) := by decide +kernel
theorem dL_edge_1 : decode cL_edge 1 = .ok (.iload_n 1, 1) := by decide +kernel
theorem dL_edge_2 : decode cL_edge 2 = .ok (.invokevirtual 22, 3) := by decide +kernel
theorem dL_edge_5 : decode cL_edge 5 = .ok (.ireturn, 1) := by decide +kernel
theorem dL_edge_6 : decode cL_edge 6 = .ok (.astore_n 2, 1) := by decide +kernel
theorem dL_edge_7 : decode cL_edge 7 = .ok (.ldc 21, 2) := by decide +kernel
theorem dL_edge_9 : decode cL_edge 9 = .ok (.ireturn, 1) := by decide +kernel
theorem dL_apart_0 : decode cL_apart 0 = .ok (.aload_n 0, 1) := by decide +kernel
theorem dL_apart_1 : decode cL_apart 1 = .ok (.iload_n 1, 1) := by decide +kernel
theorem dL_apart_2 : decode cL_apart 2 = .ok (.iload_n 2, 1) := by decide +kernel
theorem dL_apart_3 : decode cL_apart 3 = .ok (.invokevirtual 26, 3) := by decide +kernel
theorem dL_apart_6 : decode cL_apart 6 = .ok (.ireturn, 1) := by decide +kernel
theorem dL_apart_7 : decode cL_apart 7 = .ok (.astore_n 3, 1) := by decide +kernel
theorem dL_apart_8 : decode cL_apart 8 = .ok (.ldc 21, 2) := by decide +kernel
theorem dL_apart_10 : decode cL_apart 10 = .ok (.ireturn, 1) := by decide +kernel
theorem dL_town_0 : decode cL_town 0 = .ok (.aload_n 0, 1) := by decide +kernel
theorem dL_town_1 : decode cL_town 1 = .ok (.iload_n 1, 1) := by decide +kernel
theorem dL_town_2 : decode cL_town 2 = .ok (.invokevirtual 29, 3) := by decide +kernel
theorem dL_town_5 : decode cL_town 5 = .ok (.ireturn, 1) := by decide +kernel
theorem dL_town_6 : decode cL_town 6 = .ok (.astore_n 2, 1) := by decide +kernel
theorem dL_town_7 : decode cL_town 7 = .ok (.ldc 21, 2) := by decide +kernel
theorem dL_town_9 : decode cL_town 9 = .ok (.ireturn, 1) := by decide +kernel
theorem dL_town_10 : decode cL_town 10 = .ok (.astore_n 2, 1) := by decide +kernel
theorem dL_town_11 : decode cL_town 11 = .ok (.ldc 34, 2) := by decide +kernel
theorem dL_town_13 : decode cL_town 13 = .ok (.ireturn, 1) := by decide +kernel
theorem dL_away_0 : decode cL_away 0 = .ok (.aload_n 0, 1) := by decide +kernel
theorem dL_away_1 : decode cL_away 1 = .ok (.iload_n 1, 1) := by decide +kernel
theorem dL_away_2 : decode cL_away 2 = .ok (.invokevirtual 35, 3) := by decide +kernel
theorem dL_away_5 : decode cL_away 5 = .ok (.ireturn, 1) := by decide +kernel
theorem dL_away_6 : decode cL_away 6 = .ok (.astore_n 2, 1) := by decide +kernel
theorem dL_away_7 : decode cL_away 7 = .ok (.ldc 21, 2) := by decide +kernel
theorem dL_away_9 : decode cL_away 9 = .ok (.ireturn, 1) := by decide +kernel
theorem dL_townAt_0 : decode cL_townAt 0 = .ok (.aload_n 0, 1) := by decide +kernel
theorem dL_townAt_1 : decode cL_townAt 1 = .ok (.iload_n 1, 1) := by decide +kernel
theorem dL_townAt_2 : decode cL_townAt 2 = .ok (.invokevirtual 38, 3) := by decide +kernel
theorem dL_townAt_5 : decode cL_townAt 5 = .ok (.ireturn, 1) := by decide +kernel
theorem dL_townAt_6 : decode cL_townAt 6 = .ok (.astore_n 2, 1) := by decide +kernel
theorem dL_townAt_7 : decode cL_townAt 7 = .ok (.ldc 21, 2) := by decide +kernel
theorem dL_townAt_9 : decode cL_townAt 9 = .ok (.ireturn, 1) := by decide +kernel
theorem dL_isUsed_0 : decode cL_isUsed 0 = .ok (.aload_n 0, 1) := by decide +kernel
theorem dL_isUsed_1 : decode cL_isUsed 1 = .ok (.iload_n 1, 1) := by decide +kernel
theorem dL_isUsed_2 : decode cL_isUsed 2 = .ok (.invokevirtual 41, 3) := by decide +kernel
theorem dL_isUsed_5 : decode cL_isUsed 5 = .ok (.ifCond .eq 7, 3) := by decide +kernel
theorem dL_isUsed_8 : decode cL_isUsed 8 = .ok (.iconst 1, 1) := by decide +kernel
theorem dL_isUsed_9 : decode cL_isUsed 9 = .ok (.goto 4, 3) := by decide +kernel
theorem dL_isUsed_12 : decode cL_isUsed 12 = .ok (.iconst 0, 1) := by decide +kernel
theorem dL_isUsed_13 : decode cL_isUsed 13 = .ok (.ireturn, 1) := by decide +kernel
theorem dL_isUsed_14 : decode cL_isUsed 14 = .ok (.astore_n 2, 1) := by decide +kernel
theorem dL_isUsed_15 : decode cL_isUsed 15 = .ok (.ldc 21, 2) := by decide +kernel
theorem dL_isUsed_17 : decode cL_isUsed 17 = .ok (.ireturn, 1) := by decide +kernel
theorem dL_twoWays_0 : decode cL_twoWays 0 = .ok (.aload_n 0, 1) := by decide +kernel
theorem dL_twoWays_1 : decode cL_twoWays 1 = .ok (.iload_n 1, 1) := by decide +kernel
theorem dL_twoWays_2 : decode cL_twoWays 2 = .ok (.iload_n 2, 1) := by decide +kernel
theorem dL_twoWays_3 : decode cL_twoWays 3 = .ok (.invokevirtual 45, 3) := by decide +kernel
theorem dL_twoWays_6 : decode cL_twoWays 6 = .ok (.ireturn, 1) := by decide +kernel
theorem dL_twoWays_7 : decode cL_twoWays 7 = .ok (.astore_n 3, 1) := by decide +kernel
theorem dL_twoWays_8 : decode cL_twoWays 8 = .ok (.ldc 21, 2) := by decide +kernel
theorem dL_twoWays_10 : decode cL_twoWays 10 = .ok (.ireturn, 1) := by decide +kernel
theorem dL_twoWays_11 : decode cL_twoWays 11 = .ok (.astore_n 3, 1) := by decide +kernel
theorem dL_twoWays_12 : decode cL_twoWays 12 = .ok (.ldc 15, 2) := by decide +kernel
theorem dL_twoWays_14 : decode cL_twoWays 14 = .ok (.ireturn, 1) := by decide +kernel
theorem dL_pin_0 : decode cL_pin 0 = .ok (.aload_n 0, 1) := by decide +kernel
theorem dL_pin_1 : decode cL_pin 1 = .ok (.iload_n 1, 1) := by decide +kernel
theorem dL_pin_2 : decode cL_pin 2 = .ok (.iload_n 2, 1) := by decide +kernel
theorem dL_pin_3 : decode cL_pin 3 = .ok (.invokevirtual 48, 3) := by decide +kernel
theorem dL_pin_6 : decode cL_pin 6 = .ok (.ireturn, 1) := by decide +kernel
theorem dL_pin_7 : decode cL_pin 7 = .ok (.astore_n 3, 1) := by decide +kernel
theorem dL_pin_8 : decode cL_pin 8 = .ok (.ldc 21, 2) := by decide +kernel
theorem dL_pin_10 : decode cL_pin 10 = .ok (.ireturn, 1) := by decide +kernel
theorem dL_pin_11 : decode cL_pin 11 = .ok (.astore_n 3, 1) := by decide +kernel
theorem dL_pin_12 : decode cL_pin 12 = .ok (.ldc 15, 2) := by decide +kernel
theorem dL_pin_14 : decode cL_pin 14 = .ok (.ireturn, 1) := by decide +kernel
theorem dL_costOf_0 : decode cL_costOf 0 = .ok (.aload_n 0, 1) := by decide +kernel
theorem dL_costOf_1 : decode cL_costOf 1 = .ok (.lload_n 1, 1) := by decide +kernel
theorem dL_costOf_2 : decode cL_costOf 2 = .ok (.invokevirtual 51, 3) := by decide +kernel
theorem dL_costOf_5 : decode cL_costOf 5 = .ok (.ireturn, 1) := by decide +kernel
theorem dL_costOf_6 : decode cL_costOf 6 = .ok (.astore_n 3, 1) := by decide +kernel
theorem dL_costOf_7 : decode cL_costOf 7 = .ok (.ldc 15, 2) := by decide +kernel
theorem dL_costOf_9 : decode cL_costOf 9 = .ok (.ireturn, 1) := by decide +kernel
theorem dL_pull_0 : decode cL_pull 0 = .ok (.aload_n 0, 1) := by decide +kernel
theorem dL_pull_1 : decode cL_pull 1 = .ok (.iload_n 1, 1) := by decide +kernel
theorem dL_pull_2 : decode cL_pull 2 = .ok (.iload_n 2, 1) := by decide +kernel
theorem dL_pull_3 : decode cL_pull 3 = .ok (.invokevirtual 55, 3) := by decide +kernel
theorem dL_pull_6 : decode cL_pull 6 = .ok (.ireturn, 1) := by decide +kernel
theorem dL_pull_7 : decode cL_pull 7 = .ok (.astore_n 3, 1) := by decide +kernel
theorem dL_pull_8 : decode cL_pull 8 = .ok (.ldc 21, 2) := by decide +kernel
theorem dL_pull_10 : decode cL_pull 10 = .ok (.ireturn, 1) := by decide +kernel
theorem dL_hold_0 : decode cL_hold 0 = .ok (.aload_n 0, 1) := by decide +kernel
theorem dL_hold_1 : decode cL_hold 1 = .ok (.iload_n 1, 1) := by decide +kernel
theorem dL_hold_2 : decode cL_hold 2 = .ok (.iload_n 2, 1) := by decide +kernel
theorem dL_hold_3 : decode cL_hold 3 = .ok (.invokevirtual 58, 3) := by decide +kernel
theorem dL_hold_6 : decode cL_hold 6 = .ok (.ifCond .eq 7, 3) := by decide +kernel
theorem dL_hold_9 : decode cL_hold 9 = .ok (.iconst 1, 1) := by decide +kernel
theorem dL_hold_10 : decode cL_hold 10 = .ok (.goto 4, 3) := by decide +kernel
theorem dL_hold_13 : decode cL_hold 13 = .ok (.iconst 0, 1) := by decide +kernel
theorem dL_hold_14 : decode cL_hold 14 = .ok (.ireturn, 1) := by decide +kernel
theorem dL_hold_15 : decode cL_hold 15 = .ok (.astore_n 3, 1) := by decide +kernel
theorem dL_hold_16 : decode cL_hold 16 = .ok (.ldc 21, 2) := by decide +kernel
theorem dL_hold_18 : decode cL_hold 18 = .ok (.ireturn, 1) := by decide +kernel
theorem dL_breathe_0 : decode cL_breathe 0 = .ok (.aload_n 0, 1) := by decide +kernel
theorem dL_breathe_1 : decode cL_breathe 1 = .ok (.iload_n 1, 1) := by decide +kernel
theorem dL_breathe_2 : decode cL_breathe 2 = .ok (.invokevirtual 62, 3) := by decide +kernel
theorem dL_breathe_5 : decode cL_breathe 5 = .ok (.ireturn, 1) := by decide +kernel
theorem dL_breathe_6 : decode cL_breathe 6 = .ok (.astore_n 2, 1) := by decide +kernel
theorem dL_breathe_7 : decode cL_breathe 7 = .ok (.ldc 15, 2) := by decide +kernel
theorem dL_breathe_9 : decode cL_breathe 9 = .ok (.ireturn, 1) := by decide +kernel
theorem dL_bubbleAt_0 : decode cL_bubbleAt 0 = .ok (.aload_n 0, 1) := by decide +kernel
theorem dL_bubbleAt_1 : decode cL_bubbleAt 1 = .ok (.iload_n 1, 1) := by decide +kernel
theorem dL_bubbleAt_2 : decode cL_bubbleAt 2 = .ok (.invokevirtual 65, 3) := by decide +kernel
theorem dL_bubbleAt_5 : decode cL_bubbleAt 5 = .ok (.ireturn, 1) := by decide +kernel
theorem dL_bubbleAt_6 : decode cL_bubbleAt 6 = .ok (.astore_n 2, 1) := by decide +kernel
theorem dL_bubbleAt_7 : decode cL_bubbleAt 7 = .ok (.ldc 21, 2) := by decide +kernel
theorem dL_bubbleAt_9 : decode cL_bubbleAt 9 = .ok (.ireturn, 1) := by decide +kernel
theorem dL_bubble_0 : decode cL_bubble 0 = .ok (.aload_n 0, 1) := by decide +kernel
theorem dL_bubble_1 : decode cL_bubble 1 = .ok (.iload_n 1, 1) := by decide +kernel
theorem dL_bubble_2 : decode cL_bubble 2 = .ok (.iload_n 2, 1) := by decide +kernel
theorem dL_bubble_3 : decode cL_bubble 3 = .ok (.invokevirtual 68, 3) := by decide +kernel
theorem dL_bubble_6 : decode cL_bubble 6 = .ok (.ireturn, 1) := by decide +kernel
theorem dL_bubble_7 : decode cL_bubble 7 = .ok (.astore_n 3, 1) := by decide +kernel
theorem dL_bubble_8 : decode cL_bubble 8 = .ok (.ldc 21, 2) := by decide +kernel
theorem dL_bubble_10 : decode cL_bubble 10 = .ok (.ireturn, 1) := by decide +kernel
theorem dL_bubble_11 : decode cL_bubble 11 = .ok (.astore_n 3, 1) := by decide +kernel
theorem dL_bubble_12 : decode cL_bubble 12 = .ok (.ldc 15, 2) := by decide +kernel
theorem dL_bubble_14 : decode cL_bubble 14 = .ok (.ireturn, 1) := by decide +kernel
theorem dL_wall_0 : decode cL_wall 0 = .ok (.aload_n 0, 1) := by decide +kernel
theorem dL_wall_1 : decode cL_wall 1 = .ok (.iload_n 1, 1) := by decide +kernel
theorem dL_wall_2 : decode cL_wall 2 = .ok (.iload_n 2, 1) := by decide +kernel
theorem dL_wall_3 : decode cL_wall 3 = .ok (.invokevirtual 71, 3) := by decide +kernel
theorem dL_wall_6 : decode cL_wall 6 = .ok (.ireturn, 1) := by decide +kernel
theorem dL_wall_7 : decode cL_wall 7 = .ok (.astore_n 3, 1) := by decide +kernel
theorem dL_wall_8 : decode cL_wall 8 = .ok (.ldc 21, 2) := by decide +kernel
theorem dL_wall_10 : decode cL_wall 10 = .ok (.ireturn, 1) := by decide +kernel
theorem dL_corners_0 : decode cL_corners 0 = .ok (.aload_n 0, 1) := by decide +kernel
theorem dL_corners_1 : decode cL_corners 1 = .ok (.iload_n 1, 1) := by decide +kernel
theorem dL_corners_2 : decode cL_corners 2 = .ok (.invokevirtual 74, 3) := by decide +kernel
theorem dL_corners_5 : decode cL_corners 5 = .ok (.ireturn, 1) := by decide +kernel
theorem dL_corners_6 : decode cL_corners 6 = .ok (.astore_n 2, 1) := by decide +kernel
theorem dL_corners_7 : decode cL_corners 7 = .ok (.ldc 15, 2) := by decide +kernel
theorem dL_corners_9 : decode cL_corners 9 = .ok (.ireturn, 1) := by decide +kernel
theorem dL_energy_0 : decode cL_energy 0 = .ok (.aload_n 0, 1) := by decide +kernel
theorem dL_energy_1 : decode cL_energy 1 = .ok (.iload_n 1, 1) := by decide +kernel
theorem dL_energy_2 : decode cL_energy 2 = .ok (.invokevirtual 77, 3) := by decide +kernel
theorem dL_energy_5 : decode cL_energy 5 = .ok (.ireturn, 1) := by decide +kernel
theorem dL_energy_6 : decode cL_energy 6 = .ok (.astore_n 2, 1) := by decide +kernel
theorem dL_energy_7 : decode cL_energy 7 = .ok (.ldc 15, 2) := by decide +kernel
theorem dL_energy_9 : decode cL_energy 9 = .ok (.ireturn, 1) := by decide +kernel
theorem dL_drawn_0 : decode cL_drawn 0 = .ok (.iload_n 1, 1) := by decide +kernel
theorem dL_drawn_1 : decode cL_drawn 1 = .ok (.aload_n 0, 1) := by decide +kernel
theorem dL_drawn_2 : decode cL_drawn 2 = .ok (.arraylength, 1) := by decide +kernel
theorem dL_drawn_3 : decode cL_drawn 3 = .ok (.if_icmp .ge 9, 3) := by decide +kernel
theorem dL_drawn_6 : decode cL_drawn 6 = .ok (.aload_n 0, 1) := by decide +kernel
theorem dL_drawn_7 : decode cL_drawn 7 = .ok (.iload_n 1, 1) := by decide +kernel
theorem dL_drawn_8 : decode cL_drawn 8 = .ok (.iaload, 1) := by decide +kernel
theorem dL_drawn_9 : decode cL_drawn 9 = .ok (.goto 13, 3) := by decide +kernel
theorem dL_drawn_12 : decode cL_drawn 12 = .ok (.ldc 80, 2) := by decide +kernel
theorem dL_drawn_14 : decode cL_drawn 14 = .ok (.iload_n 1, 1) := by decide +kernel
theorem dL_drawn_15 : decode cL_drawn 15 = .ok (.iconst 3, 1) := by decide +kernel
theorem dL_drawn_16 : decode cL_drawn 16 = .ok (.iadd, 1) := by decide +kernel
theorem dL_drawn_17 : decode cL_drawn 17 = .ok (.imul, 1) := by decide +kernel
theorem dL_drawn_18 : decode cL_drawn 18 = .ok (.sipush 17011, 3) := by decide +kernel
theorem dL_drawn_21 : decode cL_drawn 21 = .ok (.iadd, 1) := by decide +kernel
theorem dL_drawn_22 : decode cL_drawn 22 = .ok (.ldc 81, 2) := by decide +kernel
theorem dL_drawn_24 : decode cL_drawn 24 = .ok (.iand, 1) := by decide +kernel
theorem dL_drawn_25 : decode cL_drawn 25 = .ok (.ireturn, 1) := by decide +kernel
theorem dL_isRefused_0 : decode cL_isRefused 0 = .ok (.iload_n 0, 1) := by decide +kernel
theorem dL_isRefused_1 : decode cL_isRefused 1 = .ok (.ldc 21, 2) := by decide +kernel
theorem dL_isRefused_3 : decode cL_isRefused 3 = .ok (.if_icmp .eq 15, 3) := by decide +kernel
theorem dL_isRefused_6 : decode cL_isRefused 6 = .ok (.iload_n 0, 1) := by decide +kernel
theorem dL_isRefused_7 : decode cL_isRefused 7 = .ok (.ldc 15, 2) := by decide +kernel
theorem dL_isRefused_9 : decode cL_isRefused 9 = .ok (.if_icmp .eq 9, 3) := by decide +kernel
theorem dL_isRefused_12 : decode cL_isRefused 12 = .ok (.iload_n 0, 1) := by decide +kernel
theorem dL_isRefused_13 : decode cL_isRefused 13 = .ok (.ldc 34, 2) := by decide +kernel
theorem dL_isRefused_15 : decode cL_isRefused 15 = .ok (.if_icmp .ne 7, 3) := by decide +kernel
theorem dL_isRefused_18 : decode cL_isRefused 18 = .ok (.iconst 1, 1) := by decide +kernel
theorem dL_isRefused_19 : decode cL_isRefused 19 = .ok (.goto 4, 3) := by decide +kernel
theorem dL_isRefused_22 : decode cL_isRefused 22 = .ok (.iconst 0, 1) := by decide +kernel
theorem dL_isRefused_23 : decode cL_isRefused 23 = .ok (.ireturn, 1) := by decide +kernel
theorem dL_mix_0 : decode cL_mix 0 = .ok (.aload_n 1, 1) := by decide +kernel
theorem dL_mix_1 : decode cL_mix 1 = .ok (.iconst 0, 1) := by decide +kernel
theorem dL_mix_2 : decode cL_mix 2 = .ok (.iaload, 1) := by decide +kernel
theorem dL_mix_3 : decode cL_mix 3 = .ok (.i2l, 1) := by decide +kernel
theorem dL_mix_4 : decode cL_mix 4 = .ok (.lstore_n 2, 1) := by decide +kernel
theorem dL_mix_5 : decode cL_mix 5 = .ok (.iconst 0, 1) := by decide +kernel
theorem dL_mix_6 : decode cL_mix 6 = .ok (.istore 4, 2) := by decide +kernel
theorem dL_mix_8 : decode cL_mix 8 = .ok (.iload 4, 2) := by decide +kernel
theorem dL_mix_10 : decode cL_mix 10 = .ok (.bipush 60, 2) := by decide +kernel
theorem dL_mix_12 : decode cL_mix 12 = .ok (.if_icmp .ge 23, 3) := by decide +kernel
theorem dL_mix_15 : decode cL_mix 15 = .ok (.ldc2_w 84, 3) := by decide +kernel
theorem dL_mix_18 : decode cL_mix 18 = .ok (.lload_n 2, 1) := by decide +kernel
theorem dL_mix_19 : decode cL_mix 19 = .ok (.lmul, 1) := by decide +kernel
theorem dL_mix_20 : decode cL_mix 20 = .ok (.aload_n 0, 1) := by decide +kernel
theorem dL_mix_21 : decode cL_mix 21 = .ok (.iload 4, 2) := by decide +kernel
theorem dL_mix_23 : decode cL_mix 23 = .ok (.invokestatic 86, 3) := by decide +kernel
theorem dL_mix_26 : decode cL_mix 26 = .ok (.i2l, 1) := by decide +kernel
theorem dL_mix_27 : decode cL_mix 27 = .ok (.ladd, 1) := by decide +kernel
theorem dL_mix_28 : decode cL_mix 28 = .ok (.lstore_n 2, 1) := by decide +kernel
theorem dL_mix_29 : decode cL_mix 29 = .ok (.iinc 4 1, 3) := by decide +kernel
theorem dL_mix_32 : decode cL_mix 32 = .ok (.goto (-24), 3) := by decide +kernel
theorem dL_mix_35 : decode cL_mix 35 = .ok (.iconst 0, 1) := by decide +kernel
theorem dL_mix_36 : decode cL_mix 36 = .ok (.istore 4, 2) := by decide +kernel
theorem dL_mix_38 : decode cL_mix 38 = .ok (.iload 4, 2) := by decide +kernel
theorem dL_mix_40 : decode cL_mix 40 = .ok (.bipush 36, 2) := by decide +kernel
theorem dL_mix_42 : decode cL_mix 42 = .ok (.if_icmp .ge 23, 3) := by decide +kernel
theorem dL_mix_45 : decode cL_mix 45 = .ok (.ldc2_w 89, 3) := by decide +kernel
theorem dL_mix_48 : decode cL_mix 48 = .ok (.lload_n 2, 1) := by decide +kernel
theorem dL_mix_49 : decode cL_mix 49 = .ok (.lmul, 1) := by decide +kernel
theorem dL_mix_50 : decode cL_mix 50 = .ok (.aload_n 0, 1) := by decide +kernel
theorem dL_mix_51 : decode cL_mix 51 = .ok (.iload 4, 2) := by decide +kernel
theorem dL_mix_53 : decode cL_mix 53 = .ok (.invokestatic 91, 3) := by decide +kernel
theorem dL_mix_56 : decode cL_mix 56 = .ok (.i2l, 1) := by decide +kernel
theorem dL_mix_57 : decode cL_mix 57 = .ok (.ladd, 1) := by decide +kernel
theorem dL_mix_58 : decode cL_mix 58 = .ok (.lstore_n 2, 1) := by decide +kernel
theorem dL_mix_59 : decode cL_mix 59 = .ok (.iinc 4 1, 3) := by decide +kernel
theorem dL_mix_62 : decode cL_mix 62 = .ok (.goto (-24), 3) := by decide +kernel
theorem dL_mix_65 : decode cL_mix 65 = .ok (.iconst 0, 1) := by decide +kernel
theorem dL_mix_66 : decode cL_mix 66 = .ok (.istore 4, 2) := by decide +kernel
theorem dL_mix_68 : decode cL_mix 68 = .ok (.iload 4, 2) := by decide +kernel
theorem dL_mix_70 : decode cL_mix 70 = .ok (.aload_n 1, 1) := by decide +kernel
theorem dL_mix_71 : decode cL_mix 71 = .ok (.iconst 0, 1) := by decide +kernel
theorem dL_mix_72 : decode cL_mix 72 = .ok (.iaload, 1) := by decide +kernel
theorem dL_mix_73 : decode cL_mix 73 = .ok (.if_icmp .ge 23, 3) := by decide +kernel
theorem dL_mix_76 : decode cL_mix 76 = .ok (.ldc2_w 93, 3) := by decide +kernel
theorem dL_mix_79 : decode cL_mix 79 = .ok (.lload_n 2, 1) := by decide +kernel
theorem dL_mix_80 : decode cL_mix 80 = .ok (.lmul, 1) := by decide +kernel
theorem dL_mix_81 : decode cL_mix 81 = .ok (.aload_n 0, 1) := by decide +kernel
theorem dL_mix_82 : decode cL_mix 82 = .ok (.iload 4, 2) := by decide +kernel
theorem dL_mix_84 : decode cL_mix 84 = .ok (.invokestatic 95, 3) := by decide +kernel
theorem dL_mix_87 : decode cL_mix 87 = .ok (.i2l, 1) := by decide +kernel
theorem dL_mix_88 : decode cL_mix 88 = .ok (.ladd, 1) := by decide +kernel
theorem dL_mix_89 : decode cL_mix 89 = .ok (.lstore_n 2, 1) := by decide +kernel
theorem dL_mix_90 : decode cL_mix 90 = .ok (.iinc 4 1, 3) := by decide +kernel
theorem dL_mix_93 : decode cL_mix 93 = .ok (.goto (-25), 3) := by decide +kernel
theorem dL_mix_96 : decode cL_mix 96 = .ok (.iconst 0, 1) := by decide +kernel
theorem dL_mix_97 : decode cL_mix 97 = .ok (.istore 4, 2) := by decide +kernel
theorem dL_mix_99 : decode cL_mix 99 = .ok (.iload 4, 2) := by decide +kernel
theorem dL_mix_101 : decode cL_mix 101 = .ok (.bipush 8, 2) := by decide +kernel
theorem dL_mix_103 : decode cL_mix 103 = .ok (.if_icmp .ge 24, 3) := by decide +kernel
theorem dL_mix_106 : decode cL_mix 106 = .ok (.ldc2_w 97, 3) := by decide +kernel
theorem dL_mix_109 : decode cL_mix 109 = .ok (.lload_n 2, 1) := by decide +kernel
theorem dL_mix_110 : decode cL_mix 110 = .ok (.lmul, 1) := by decide +kernel
theorem dL_mix_111 : decode cL_mix 111 = .ok (.aload_n 0, 1) := by decide +kernel
theorem dL_mix_112 : decode cL_mix 112 = .ok (.iload 4, 2) := by decide +kernel
theorem dL_mix_114 : decode cL_mix 114 = .ok (.iconst 4, 1) := by decide +kernel
theorem dL_mix_115 : decode cL_mix 115 = .ok (.invokestatic 99, 3) := by decide +kernel
theorem dL_mix_118 : decode cL_mix 118 = .ok (.i2l, 1) := by decide +kernel
theorem dL_mix_119 : decode cL_mix 119 = .ok (.ladd, 1) := by decide +kernel
theorem dL_mix_120 : decode cL_mix 120 = .ok (.lstore_n 2, 1) := by decide +kernel
theorem dL_mix_121 : decode cL_mix 121 = .ok (.iinc 4 1, 3) := by decide +kernel
theorem dL_mix_124 : decode cL_mix 124 = .ok (.goto (-25), 3) := by decide +kernel
theorem dL_mix_127 : decode cL_mix 127 = .ok (.ldc2_w 102, 3) := by decide +kernel
theorem dL_mix_130 : decode cL_mix 130 = .ok (.lload_n 2, 1) := by decide +kernel
theorem dL_mix_131 : decode cL_mix 131 = .ok (.lmul, 1) := by decide +kernel
theorem dL_mix_132 : decode cL_mix 132 = .ok (.aload_n 0, 1) := by decide +kernel
theorem dL_mix_133 : decode cL_mix 133 = .ok (.iconst 2, 1) := by decide +kernel
theorem dL_mix_134 : decode cL_mix 134 = .ok (.invokestatic 104, 3) := by decide +kernel
theorem dL_mix_137 : decode cL_mix 137 = .ok (.i2l, 1) := by decide +kernel
theorem dL_mix_138 : decode cL_mix 138 = .ok (.ladd, 1) := by decide +kernel
theorem dL_mix_139 : decode cL_mix 139 = .ok (.ldc2_w 106, 3) := by decide +kernel
theorem dL_mix_142 : decode cL_mix 142 = .ok (.aload_n 0, 1) := by decide +kernel
theorem dL_mix_143 : decode cL_mix 143 = .ok (.iconst 3, 1) := by decide +kernel
theorem dL_mix_144 : decode cL_mix 144 = .ok (.invokestatic 104, 3) := by decide +kernel
theorem dL_mix_147 : decode cL_mix 147 = .ok (.i2l, 1) := by decide +kernel
theorem dL_mix_148 : decode cL_mix 148 = .ok (.lmul, 1) := by decide +kernel
theorem dL_mix_149 : decode cL_mix 149 = .ok (.ladd, 1) := by decide +kernel
theorem dL_mix_150 : decode cL_mix 150 = .ok (.ldc2_w 108, 3) := by decide +kernel
theorem dL_mix_153 : decode cL_mix 153 = .ok (.aload_n 0, 1) := by decide +kernel
theorem dL_mix_154 : decode cL_mix 154 = .ok (.iconst 0, 1) := by decide +kernel
theorem dL_mix_155 : decode cL_mix 155 = .ok (.invokevirtual 110, 3) := by decide +kernel
theorem dL_mix_158 : decode cL_mix 158 = .ok (.lmul, 1) := by decide +kernel
theorem dL_mix_159 : decode cL_mix 159 = .ok (.ladd, 1) := by decide +kernel
theorem dL_mix_160 : decode cL_mix 160 = .ok (.ldc2_w 114, 3) := by decide +kernel
theorem dL_mix_163 : decode cL_mix 163 = .ok (.aload_n 0, 1) := by decide +kernel
theorem dL_mix_164 : decode cL_mix 164 = .ok (.iconst 1, 1) := by decide +kernel
theorem dL_mix_165 : decode cL_mix 165 = .ok (.invokevirtual 110, 3) := by decide +kernel
theorem dL_mix_168 : decode cL_mix 168 = .ok (.lmul, 1) := by decide +kernel
theorem dL_mix_169 : decode cL_mix 169 = .ok (.ladd, 1) := by decide +kernel
theorem dL_mix_170 : decode cL_mix 170 = .ok (.ldc2_w 116, 3) := by decide +kernel
theorem dL_mix_173 : decode cL_mix 173 = .ok (.aload_n 0, 1) := by decide +kernel
theorem dL_mix_174 : decode cL_mix 174 = .ok (.aload_n 1, 1) := by decide +kernel
theorem dL_mix_175 : decode cL_mix 175 = .ok (.iconst 0, 1) := by decide +kernel
theorem dL_mix_176 : decode cL_mix 176 = .ok (.iaload, 1) := by decide +kernel
theorem dL_mix_177 : decode cL_mix 177 = .ok (.invokestatic 95, 3) := by decide +kernel
theorem dL_mix_180 : decode cL_mix 180 = .ok (.i2l, 1) := by decide +kernel
theorem dL_mix_181 : decode cL_mix 181 = .ok (.lmul, 1) := by decide +kernel
theorem dL_mix_182 : decode cL_mix 182 = .ok (.ladd, 1) := by decide +kernel
theorem dL_mix_183 : decode cL_mix 183 = .ok (.lreturn, 1) := by decide +kernel
theorem dL_areNets_0 : decode cL_areNets 0 = .ok (.aload_n 0, 1) := by decide +kernel
theorem dL_areNets_1 : decode cL_areNets 1 = .ok (.invokevirtual 118, 3) := by decide +kernel
theorem dL_areNets_4 : decode cL_areNets 4 = .ok (.istore_n 3, 1) := by decide +kernel
theorem dL_areNets_5 : decode cL_areNets 5 = .ok (.aload_n 0, 1) := by decide +kernel
theorem dL_areNets_6 : decode cL_areNets 6 = .ok (.invokevirtual 122, 3) := by decide +kernel
theorem dL_areNets_9 : decode cL_areNets 9 = .ok (.istore 4, 2) := by decide +kernel
theorem dL_areNets_11 : decode cL_areNets 11 = .ok (.iload 4, 2) := by decide +kernel
theorem dL_areNets_13 : decode cL_areNets 13 = .ok (.ifCond .lt 85, 3) := by decide +kernel
theorem dL_areNets_16 : decode cL_areNets 16 = .ok (.iload 4, 2) := by decide +kernel
theorem dL_areNets_18 : decode cL_areNets 18 = .ok (.iload_n 3, 1) := by decide +kernel
theorem dL_areNets_19 : decode cL_areNets 19 = .ok (.if_icmp .gt 79, 3) := by decide +kernel
theorem dL_areNets_22 : decode cL_areNets 22 = .ok (.aload_n 0, 1) := by decide +kernel
theorem dL_areNets_23 : decode cL_areNets 23 = .ok (.invokevirtual 125, 3) := by decide +kernel
theorem dL_areNets_26 : decode cL_areNets 26 = .ok (.iload_n 3, 1) := by decide +kernel
theorem dL_areNets_27 : decode cL_areNets 27 = .ok (.iload 4, 2) := by decide +kernel
theorem dL_areNets_29 : decode cL_areNets 29 = .ok (.isub, 1) := by decide +kernel
theorem dL_areNets_30 : decode cL_areNets 30 = .ok (.if_icmp .ne 68, 3) := by decide +kernel
theorem dL_areNets_33 : decode cL_areNets 33 = .ok (.aload_n 0, 1) := by decide +kernel
theorem dL_areNets_34 : decode cL_areNets 34 = .ok (.invokevirtual 128, 3) := by decide +kernel
theorem dL_areNets_37 : decode cL_areNets 37 = .ok (.aload_n 1, 1) := by decide +kernel
theorem dL_areNets_38 : decode cL_areNets 38 = .ok (.iconst 0, 1) := by decide +kernel
theorem dL_areNets_39 : decode cL_areNets 39 = .ok (.iaload, 1) := by decide +kernel
theorem dL_areNets_40 : decode cL_areNets 40 = .ok (.iconst 4, 1) := by decide +kernel
theorem dL_areNets_41 : decode cL_areNets 41 = .ok (.if_icmp .le 7, 3) := by decide +kernel
theorem dL_areNets_44 : decode cL_areNets 44 = .ok (.iconst (-1), 1) := by decide +kernel
theorem dL_areNets_45 : decode cL_areNets 45 = .ok (.goto 4, 3) := by decide +kernel
theorem dL_areNets_48 : decode cL_areNets 48 = .ok (.iload_n 3, 1) := by decide +kernel
theorem dL_areNets_49 : decode cL_areNets 49 = .ok (.if_icmp .ne 49, 3) := by decide +kernel
theorem dL_areNets_52 : decode cL_areNets 52 = .ok (.aload_n 1, 1) := by decide +kernel
theorem dL_areNets_53 : decode cL_areNets 53 = .ok (.iconst 0, 1) := by decide +kernel
theorem dL_areNets_54 : decode cL_areNets 54 = .ok (.iaload, 1) := by decide +kernel
theorem dL_areNets_55 : decode cL_areNets 55 = .ok (.iconst 1, 1) := by decide +kernel
theorem dL_areNets_56 : decode cL_areNets 56 = .ok (.if_icmp .gt 7, 3) := by decide +kernel
theorem dL_areNets_59 : decode cL_areNets 59 = .ok (.iload_n 3, 1) := by decide +kernel
theorem dL_areNets_60 : decode cL_areNets 60 = .ok (.ifCond .ne 38, 3) := by decide +kernel
theorem dL_areNets_63 : decode cL_areNets 63 = .ok (.aload_n 1, 1) := by decide +kernel
theorem dL_areNets_64 : decode cL_areNets 64 = .ok (.iconst 0, 1) := by decide +kernel
theorem dL_areNets_65 : decode cL_areNets 65 = .ok (.iaload, 1) := by decide +kernel
theorem dL_areNets_66 : decode cL_areNets 66 = .ok (.iconst 2, 1) := by decide +kernel
theorem dL_areNets_67 : decode cL_areNets 67 = .ok (.if_icmp .ne 27, 3) := by decide +kernel
theorem dL_areNets_70 : decode cL_areNets 70 = .ok (.iload 4, 2) := by decide +kernel
theorem dL_areNets_72 : decode cL_areNets 72 = .ok (.iload_n 3, 1) := by decide +kernel
theorem dL_areNets_73 : decode cL_areNets 73 = .ok (.if_icmp .ne 25, 3) := by decide +kernel
theorem dL_areNets_76 : decode cL_areNets 76 = .ok (.iload_n 3, 1) := by decide +kernel
theorem dL_areNets_77 : decode cL_areNets 77 = .ok (.aload_n 0, 1) := by decide +kernel
theorem dL_areNets_78 : decode cL_areNets 78 = .ok (.aload_n 0, 1) := by decide +kernel
theorem dL_areNets_79 : decode cL_areNets 79 = .ok (.iconst 0, 1) := by decide +kernel
theorem dL_areNets_80 : decode cL_areNets 80 = .ok (.invokestatic 95, 3) := by decide +kernel
theorem dL_areNets_83 : decode cL_areNets 83 = .ok (.aload_n 0, 1) := by decide +kernel
theorem dL_areNets_84 : decode cL_areNets 84 = .ok (.iconst 1, 1) := by decide +kernel
theorem dL_areNets_85 : decode cL_areNets 85 = .ok (.invokestatic 95, 3) := by decide +kernel
theorem dL_areNets_88 : decode cL_areNets 88 = .ok (.invokestatic 131, 3) := by decide +kernel
theorem dL_areNets_91 : decode cL_areNets 91 = .ok (.if_icmp .ne 7, 3) := by decide +kernel
theorem dL_areNets_94 : decode cL_areNets 94 = .ok (.iconst 1, 1) := by decide +kernel
theorem dL_areNets_95 : decode cL_areNets 95 = .ok (.goto 4, 3) := by decide +kernel
theorem dL_areNets_98 : decode cL_areNets 98 = .ok (.iconst 0, 1) := by decide +kernel
theorem dL_areNets_99 : decode cL_areNets 99 = .ok (.istore 5, 2) := by decide +kernel
theorem dL_areNets_101 : decode cL_areNets 101 = .ok (.iconst 0, 1) := by decide +kernel
theorem dL_areNets_102 : decode cL_areNets 102 = .ok (.istore 6, 2) := by decide +kernel
theorem dL_areNets_104 : decode cL_areNets 104 = .ok (.iconst 0, 1) := by decide +kernel
theorem dL_areNets_105 : decode cL_areNets 105 = .ok (.istore 7, 2) := by decide +kernel
theorem dL_areNets_107 : decode cL_areNets 107 = .ok (.iload 7, 2) := by decide +kernel
theorem dL_areNets_109 : decode cL_areNets 109 = .ok (.bipush 60, 2) := by decide +kernel
theorem dL_areNets_111 : decode cL_areNets 111 = .ok (.if_icmp .ge 32, 3) := by decide +kernel
theorem dL_areNets_114 : decode cL_areNets 114 = .ok (.iload 5, 2) := by decide +kernel
theorem dL_areNets_116 : decode cL_areNets 116 = .ok (.ifCond .eq 27, 3) := by decide +kernel
theorem dL_areNets_119 : decode cL_areNets 119 = .ok (.iload_n 2, 1) := by decide +kernel
theorem dL_areNets_120 : decode cL_areNets 120 = .ok (.bipush 8, 2) := by decide +kernel
theorem dL_areNets_122 : decode cL_areNets 122 = .ok (.irem, 1) := by decide +kernel
theorem dL_areNets_123 : decode cL_areNets 123 = .ok (.ifCond .ne 20, 3) := by decide +kernel
theorem dL_areNets_126 : decode cL_areNets 126 = .ok (.iload 6, 2) := by decide +kernel
theorem dL_areNets_128 : decode cL_areNets 128 = .ok (.aload_n 0, 1) := by decide +kernel
theorem dL_areNets_129 : decode cL_areNets 129 = .ok (.iload 7, 2) := by decide +kernel
theorem dL_areNets_131 : decode cL_areNets 131 = .ok (.invokestatic 133, 3) := by decide +kernel
theorem dL_areNets_134 : decode cL_areNets 134 = .ok (.iadd, 1) := by decide +kernel
theorem dL_areNets_135 : decode cL_areNets 135 = .ok (.istore 6, 2) := by decide +kernel
theorem dL_areNets_137 : decode cL_areNets 137 = .ok (.iinc 7 1, 3) := by decide +kernel
theorem dL_areNets_140 : decode cL_areNets 140 = .ok (.goto (-33), 3) := by decide +kernel
theorem dL_areNets_143 : decode cL_areNets 143 = .ok (.iload 5, 2) := by decide +kernel
theorem dL_areNets_145 : decode cL_areNets 145 = .ok (.ifCond .eq 39, 3) := by decide +kernel
theorem dL_areNets_148 : decode cL_areNets 148 = .ok (.iload_n 2, 1) := by decide +kernel
theorem dL_areNets_149 : decode cL_areNets 149 = .ok (.bipush 8, 2) := by decide +kernel
theorem dL_areNets_151 : decode cL_areNets 151 = .ok (.irem, 1) := by decide +kernel
theorem dL_areNets_152 : decode cL_areNets 152 = .ok (.ifCond .gt 28, 3) := by decide +kernel
theorem dL_areNets_155 : decode cL_areNets 155 = .ok (.iload 6, 2) := by decide +kernel
theorem dL_areNets_157 : decode cL_areNets 157 = .ok (.ifCond .le 7, 3) := by decide +kernel
theorem dL_areNets_160 : decode cL_areNets 160 = .ok (.iconst 1, 1) := by decide +kernel
theorem dL_areNets_161 : decode cL_areNets 161 = .ok (.goto 4, 3) := by decide +kernel
theorem dL_areNets_164 : decode cL_areNets 164 = .ok (.iconst 0, 1) := by decide +kernel
theorem dL_areNets_165 : decode cL_areNets 165 = .ok (.aload_n 1, 1) := by decide +kernel
theorem dL_areNets_166 : decode cL_areNets 166 = .ok (.iconst 0, 1) := by decide +kernel
theorem dL_areNets_167 : decode cL_areNets 167 = .ok (.iaload, 1) := by decide +kernel
theorem dL_areNets_168 : decode cL_areNets 168 = .ok (.iconst 1, 1) := by decide +kernel
theorem dL_areNets_169 : decode cL_areNets 169 = .ok (.if_icmp .le 7, 3) := by decide +kernel
theorem dL_areNets_172 : decode cL_areNets 172 = .ok (.iconst 1, 1) := by decide +kernel
theorem dL_areNets_173 : decode cL_areNets 173 = .ok (.goto 4, 3) := by decide +kernel
theorem dL_areNets_176 : decode cL_areNets 176 = .ok (.iconst 0, 1) := by decide +kernel
theorem dL_areNets_177 : decode cL_areNets 177 = .ok (.if_icmp .ne 7, 3) := by decide +kernel
theorem dL_areNets_180 : decode cL_areNets 180 = .ok (.iconst 1, 1) := by decide +kernel
theorem dL_areNets_181 : decode cL_areNets 181 = .ok (.goto 4, 3) := by decide +kernel
theorem dL_areNets_184 : decode cL_areNets 184 = .ok (.iconst 0, 1) := by decide +kernel
theorem dL_areNets_185 : decode cL_areNets 185 = .ok (.istore 5, 2) := by decide +kernel
theorem dL_areNets_187 : decode cL_areNets 187 = .ok (.iload_n 2, 1) := by decide +kernel
theorem dL_areNets_188 : decode cL_areNets 188 = .ok (.bipush 36, 2) := by decide +kernel
theorem dL_areNets_190 : decode cL_areNets 190 = .ok (.irem, 1) := by decide +kernel
theorem dL_areNets_191 : decode cL_areNets 191 = .ok (.istore 7, 2) := by decide +kernel
theorem dL_areNets_193 : decode cL_areNets 193 = .ok (.iload_n 2, 1) := by decide +kernel
theorem dL_areNets_194 : decode cL_areNets 194 = .ok (.bipush 36, 2) := by decide +kernel
theorem dL_areNets_196 : decode cL_areNets 196 = .ok (.idiv, 1) := by decide +kernel
theorem dL_areNets_197 : decode cL_areNets 197 = .ok (.bipush 36, 2) := by decide +kernel
theorem dL_areNets_199 : decode cL_areNets 199 = .ok (.irem, 1) := by decide +kernel
theorem dL_areNets_200 : decode cL_areNets 200 = .ok (.istore 8, 2) := by decide +kernel
theorem dL_areNets_202 : decode cL_areNets 202 = .ok (.iload_n 2, 1) := by decide +kernel
theorem dL_areNets_203 : decode cL_areNets 203 = .ok (.sipush 1296, 3) := by decide +kernel
theorem dL_areNets_206 : decode cL_areNets 206 = .ok (.idiv, 1) := by decide +kernel
theorem dL_areNets_207 : decode cL_areNets 207 = .ok (.bipush 36, 2) := by decide +kernel
theorem dL_areNets_209 : decode cL_areNets 209 = .ok (.irem, 1) := by decide +kernel
theorem dL_areNets_210 : decode cL_areNets 210 = .ok (.istore 9, 2) := by decide +kernel
theorem dL_areNets_212 : decode cL_areNets 212 = .ok (.aload_n 0, 1) := by decide +kernel
theorem dL_areNets_213 : decode cL_areNets 213 = .ok (.iload 7, 2) := by decide +kernel
theorem dL_areNets_215 : decode cL_areNets 215 = .ok (.iload 8, 2) := by decide +kernel
theorem dL_areNets_217 : decode cL_areNets 217 = .ok (.invokestatic 131, 3) := by decide +kernel
theorem dL_areNets_220 : decode cL_areNets 220 = .ok (.istore 10, 2) := by decide +kernel
theorem dL_areNets_222 : decode cL_areNets 222 = .ok (.aload_n 0, 1) := by decide +kernel
theorem dL_areNets_223 : decode cL_areNets 223 = .ok (.iload 7, 2) := by decide +kernel
theorem dL_areNets_225 : decode cL_areNets 225 = .ok (.iload 8, 2) := by decide +kernel
theorem dL_areNets_227 : decode cL_areNets 227 = .ok (.invokestatic 135, 3) := by decide +kernel
theorem dL_areNets_230 : decode cL_areNets 230 = .ok (.istore 11, 2) := by decide +kernel
theorem dL_areNets_232 : decode cL_areNets 232 = .ok (.iload 5, 2) := by decide +kernel
theorem dL_areNets_234 : decode cL_areNets 234 = .ok (.ifCond .eq 91, 3) := by decide +kernel
theorem dL_areNets_237 : decode cL_areNets 237 = .ok (.iload 10, 2) := by decide +kernel
theorem dL_areNets_239 : decode cL_areNets 239 = .ok (.aload_n 0, 1) := by decide +kernel
theorem dL_areNets_240 : decode cL_areNets 240 = .ok (.iload 8, 2) := by decide +kernel
theorem dL_areNets_242 : decode cL_areNets 242 = .ok (.iload 7, 2) := by decide +kernel
theorem dL_areNets_244 : decode cL_areNets 244 = .ok (.invokestatic 131, 3) := by decide +kernel
theorem dL_areNets_247 : decode cL_areNets 247 = .ok (.if_icmp .ne 78, 3) := by decide +kernel
theorem dL_areNets_250 : decode cL_areNets 250 = .ok (.iload 10, 2) := by decide +kernel
theorem dL_areNets_252 : decode cL_areNets 252 = .ok (.aload_n 0, 1) := by decide +kernel
theorem dL_areNets_253 : decode cL_areNets 253 = .ok (.iload 7, 2) := by decide +kernel
theorem dL_areNets_255 : decode cL_areNets 255 = .ok (.iload 9, 2) := by decide +kernel
theorem dL_areNets_257 : decode cL_areNets 257 = .ok (.invokestatic 131, 3) := by decide +kernel
theorem dL_areNets_260 : decode cL_areNets 260 = .ok (.aload_n 0, 1) := by decide +kernel
theorem dL_areNets_261 : decode cL_areNets 261 = .ok (.iload 9, 2) := by decide +kernel
theorem dL_areNets_263 : decode cL_areNets 263 = .ok (.iload 8, 2) := by decide +kernel
theorem dL_areNets_265 : decode cL_areNets 265 = .ok (.invokestatic 131, 3) := by decide +kernel
theorem dL_areNets_268 : decode cL_areNets 268 = .ok (.iadd, 1) := by decide +kernel
theorem dL_areNets_269 : decode cL_areNets 269 = .ok (.if_icmp .gt 56, 3) := by decide +kernel
theorem dL_areNets_272 : decode cL_areNets 272 = .ok (.iload 7, 2) := by decide +kernel
theorem dL_areNets_274 : decode cL_areNets 274 = .ok (.iload 8, 2) := by decide +kernel
theorem dL_areNets_276 : decode cL_areNets 276 = .ok (.if_icmp .ne 18, 3) := by decide +kernel
theorem dL_areNets_279 : decode cL_areNets 279 = .ok (.iload 10, 2) := by decide +kernel
theorem dL_areNets_281 : decode cL_areNets 281 = .ok (.ifCond .ne 44, 3) := by decide +kernel
theorem dL_areNets_284 : decode cL_areNets 284 = .ok (.iload 11, 2) := by decide +kernel
theorem dL_areNets_286 : decode cL_areNets 286 = .ok (.ldc 15, 2) := by decide +kernel
theorem dL_areNets_288 : decode cL_areNets 288 = .ok (.if_icmp .ne 37, 3) := by decide +kernel
theorem dL_areNets_291 : decode cL_areNets 291 = .ok (.goto 30, 3) := by decide +kernel
theorem dL_areNets_294 : decode cL_areNets 294 = .ok (.iload 10, 2) := by decide +kernel
theorem dL_areNets_296 : decode cL_areNets 296 = .ok (.ifCond .le 29, 3) := by decide +kernel
theorem dL_areNets_299 : decode cL_areNets 299 = .ok (.iload 11, 2) := by decide +kernel
theorem dL_areNets_301 : decode cL_areNets 301 = .ok (.iconst 2, 1) := by decide +kernel
theorem dL_areNets_302 : decode cL_areNets 302 = .ok (.iload 10, 2) := by decide +kernel
theorem dL_areNets_304 : decode cL_areNets 304 = .ok (.imul, 1) := by decide +kernel
theorem dL_areNets_305 : decode cL_areNets 305 = .ok (.if_icmp .lt 20, 3) := by decide +kernel
theorem dL_areNets_308 : decode cL_areNets 308 = .ok (.iload 11, 2) := by decide +kernel
theorem dL_areNets_310 : decode cL_areNets 310 = .ok (.aload_n 0, 1) := by decide +kernel
theorem dL_areNets_311 : decode cL_areNets 311 = .ok (.iload 8, 2) := by decide +kernel
theorem dL_areNets_313 : decode cL_areNets 313 = .ok (.iload 7, 2) := by decide +kernel
theorem dL_areNets_315 : decode cL_areNets 315 = .ok (.invokestatic 135, 3) := by decide +kernel
theorem dL_areNets_318 : decode cL_areNets 318 = .ok (.if_icmp .ne 7, 3) := by decide +kernel
theorem dL_areNets_321 : decode cL_areNets 321 = .ok (.iconst 1, 1) := by decide +kernel
theorem dL_areNets_322 : decode cL_areNets 322 = .ok (.goto 4, 3) := by decide +kernel
theorem dL_areNets_325 : decode cL_areNets 325 = .ok (.iconst 0, 1) := by decide +kernel
theorem dL_areNets_326 : decode cL_areNets 326 = .ok (.ireturn, 1) := by decide +kernel
theorem dL_areFilms_0 : decode cL_areFilms 0 = .ok (.aload_n 0, 1) := by decide +kernel
theorem dL_areFilms_1 : decode cL_areFilms 1 = .ok (.invokevirtual 137, 3) := by decide +kernel
theorem dL_areFilms_4 : decode cL_areFilms 4 = .ok (.istore_n 3, 1) := by decide +kernel
theorem dL_areFilms_5 : decode cL_areFilms 5 = .ok (.aload_n 0, 1) := by decide +kernel
theorem dL_areFilms_6 : decode cL_areFilms 6 = .ok (.iconst 0, 1) := by decide +kernel
theorem dL_areFilms_7 : decode cL_areFilms 7 = .ok (.invokevirtual 110, 3) := by decide +kernel
theorem dL_areFilms_10 : decode cL_areFilms 10 = .ok (.lstore 4, 2) := by decide +kernel
theorem dL_areFilms_12 : decode cL_areFilms 12 = .ok (.aload_n 0, 1) := by decide +kernel
theorem dL_areFilms_13 : decode cL_areFilms 13 = .ok (.iconst 1, 1) := by decide +kernel
theorem dL_areFilms_14 : decode cL_areFilms 14 = .ok (.invokevirtual 110, 3) := by decide +kernel
theorem dL_areFilms_17 : decode cL_areFilms 17 = .ok (.lstore 6, 2) := by decide +kernel
theorem dL_areFilms_19 : decode cL_areFilms 19 = .ok (.iload_n 3, 1) := by decide +kernel
theorem dL_areFilms_20 : decode cL_areFilms 20 = .ok (.aload_n 0, 1) := by decide +kernel
theorem dL_areFilms_21 : decode cL_areFilms 21 = .ok (.invokevirtual 140, 3) := by decide +kernel
theorem dL_areFilms_24 : decode cL_areFilms 24 = .ok (.if_icmp .ne 45, 3) := by decide +kernel
theorem dL_areFilms_27 : decode cL_areFilms 27 = .ok (.iload_n 3, 1) := by decide +kernel
theorem dL_areFilms_28 : decode cL_areFilms 28 = .ok (.ifCond .lt 41, 3) := by decide +kernel
theorem dL_areFilms_31 : decode cL_areFilms 31 = .ok (.aload_n 0, 1) := by decide +kernel
theorem dL_areFilms_32 : decode cL_areFilms 32 = .ok (.lload 4, 2) := by decide +kernel
theorem dL_areFilms_34 : decode cL_areFilms 34 = .ok (.invokestatic 143, 3) := by decide +kernel
theorem dL_areFilms_37 : decode cL_areFilms 37 = .ok (.iload_n 3, 1) := by decide +kernel
theorem dL_areFilms_38 : decode cL_areFilms 38 = .ok (.if_icmp .ne 31, 3) := by decide +kernel
theorem dL_areFilms_41 : decode cL_areFilms 41 = .ok (.aload_n 0, 1) := by decide +kernel
theorem dL_areFilms_42 : decode cL_areFilms 42 = .ok (.lload 6, 2) := by decide +kernel
theorem dL_areFilms_44 : decode cL_areFilms 44 = .ok (.invokestatic 143, 3) := by decide +kernel
theorem dL_areFilms_47 : decode cL_areFilms 47 = .ok (.iload_n 3, 1) := by decide +kernel
theorem dL_areFilms_48 : decode cL_areFilms 48 = .ok (.if_icmp .ne 21, 3) := by decide +kernel
theorem dL_areFilms_51 : decode cL_areFilms 51 = .ok (.lload 4, 2) := by decide +kernel
theorem dL_areFilms_53 : decode cL_areFilms 53 = .ok (.lload 6, 2) := by decide +kernel
theorem dL_areFilms_55 : decode cL_areFilms 55 = .ok (.ldc2_w 146, 3) := by decide +kernel
theorem dL_areFilms_58 : decode cL_areFilms 58 = .ok (.lxor, 1) := by decide +kernel
theorem dL_areFilms_59 : decode cL_areFilms 59 = .ok (.land, 1) := by decide +kernel
theorem dL_areFilms_60 : decode cL_areFilms 60 = .ok (.lconst 0, 1) := by decide +kernel
theorem dL_areFilms_61 : decode cL_areFilms 61 = .ok (.lcmp, 1) := by decide +kernel
theorem dL_areFilms_62 : decode cL_areFilms 62 = .ok (.ifCond .ne 7, 3) := by decide +kernel
theorem dL_areFilms_65 : decode cL_areFilms 65 = .ok (.iconst 1, 1) := by decide +kernel
theorem dL_areFilms_66 : decode cL_areFilms 66 = .ok (.goto 4, 3) := by decide +kernel
theorem dL_areFilms_69 : decode cL_areFilms 69 = .ok (.iconst 0, 1) := by decide +kernel
theorem dL_areFilms_70 : decode cL_areFilms 70 = .ok (.istore 8, 2) := by decide +kernel
theorem dL_areFilms_72 : decode cL_areFilms 72 = .ok (.lconst 0, 1) := by decide +kernel
theorem dL_areFilms_73 : decode cL_areFilms 73 = .ok (.lstore 9, 2) := by decide +kernel
theorem dL_areFilms_75 : decode cL_areFilms 75 = .ok (.lconst 0, 1) := by decide +kernel
theorem dL_areFilms_76 : decode cL_areFilms 76 = .ok (.lstore 11, 2) := by decide +kernel
theorem dL_areFilms_78 : decode cL_areFilms 78 = .ok (.iconst 0, 1) := by decide +kernel
theorem dL_areFilms_79 : decode cL_areFilms 79 = .ok (.istore 13, 2) := by decide +kernel
theorem dL_areFilms_81 : decode cL_areFilms 81 = .ok (.iload 13, 2) := by decide +kernel
theorem dL_areFilms_83 : decode cL_areFilms 83 = .ok (.bipush 36, 2) := by decide +kernel
theorem dL_areFilms_85 : decode cL_areFilms 85 = .ok (.if_icmp .ge 51, 3) := by decide +kernel
theorem dL_areFilms_88 : decode cL_areFilms 88 = .ok (.lload 9, 2) := by decide +kernel
theorem dL_areFilms_90 : decode cL_areFilms 90 = .ok (.aload_n 1, 1) := by decide +kernel
theorem dL_areFilms_91 : decode cL_areFilms 91 = .ok (.iload 13, 2) := by decide +kernel
theorem dL_areFilms_93 : decode cL_areFilms 93 = .ok (.iaload, 1) := by decide +kernel
theorem dL_areFilms_94 : decode cL_areFilms 94 = .ok (.iconst 1, 1) := by decide +kernel
theorem dL_areFilms_95 : decode cL_areFilms 95 = .ok (.if_icmp .ne 10, 3) := by decide +kernel
theorem dL_areFilms_98 : decode cL_areFilms 98 = .ok (.lconst 1, 1) := by decide +kernel
theorem dL_areFilms_99 : decode cL_areFilms 99 = .ok (.iload 13, 2) := by decide +kernel
theorem dL_areFilms_101 : decode cL_areFilms 101 = .ok (.lshl, 1) := by decide +kernel
theorem dL_areFilms_102 : decode cL_areFilms 102 = .ok (.goto 4, 3) := by decide +kernel
theorem dL_areFilms_105 : decode cL_areFilms 105 = .ok (.lconst 0, 1) := by decide +kernel
theorem dL_areFilms_106 : decode cL_areFilms 106 = .ok (.lor, 1) := by decide +kernel
theorem dL_areFilms_107 : decode cL_areFilms 107 = .ok (.lstore 9, 2) := by decide +kernel
theorem dL_areFilms_109 : decode cL_areFilms 109 = .ok (.lload 11, 2) := by decide +kernel
theorem dL_areFilms_111 : decode cL_areFilms 111 = .ok (.aload_n 1, 1) := by decide +kernel
theorem dL_areFilms_112 : decode cL_areFilms 112 = .ok (.iload 13, 2) := by decide +kernel
theorem dL_areFilms_114 : decode cL_areFilms 114 = .ok (.iaload, 1) := by decide +kernel
theorem dL_areFilms_115 : decode cL_areFilms 115 = .ok (.iconst 2, 1) := by decide +kernel
theorem dL_areFilms_116 : decode cL_areFilms 116 = .ok (.if_icmp .ne 10, 3) := by decide +kernel
theorem dL_areFilms_119 : decode cL_areFilms 119 = .ok (.lconst 1, 1) := by decide +kernel
theorem dL_areFilms_120 : decode cL_areFilms 120 = .ok (.iload 13, 2) := by decide +kernel
theorem dL_areFilms_122 : decode cL_areFilms 122 = .ok (.lshl, 1) := by decide +kernel
theorem dL_areFilms_123 : decode cL_areFilms 123 = .ok (.goto 4, 3) := by decide +kernel
theorem dL_areFilms_126 : decode cL_areFilms 126 = .ok (.lconst 0, 1) := by decide +kernel
theorem dL_areFilms_127 : decode cL_areFilms 127 = .ok (.lor, 1) := by decide +kernel
theorem dL_areFilms_128 : decode cL_areFilms 128 = .ok (.lstore 11, 2) := by decide +kernel
theorem dL_areFilms_130 : decode cL_areFilms 130 = .ok (.iinc 13 1, 3) := by decide +kernel
theorem dL_areFilms_133 : decode cL_areFilms 133 = .ok (.goto (-52), 3) := by decide +kernel
theorem dL_areFilms_136 : decode cL_areFilms 136 = .ok (.iconst 0, 1) := by decide +kernel
theorem dL_areFilms_137 : decode cL_areFilms 137 = .ok (.istore 13, 2) := by decide +kernel
theorem dL_areFilms_139 : decode cL_areFilms 139 = .ok (.iload 13, 2) := by decide +kernel
theorem dL_areFilms_141 : decode cL_areFilms 141 = .ok (.bipush 36, 2) := by decide +kernel
theorem dL_areFilms_143 : decode cL_areFilms 143 = .ok (.if_icmp .ge 105, 3) := by decide +kernel
theorem dL_areFilms_146 : decode cL_areFilms 146 = .ok (.iload 8, 2) := by decide +kernel
theorem dL_areFilms_148 : decode cL_areFilms 148 = .ok (.ifCond .eq 100, 3) := by decide +kernel
theorem dL_areFilms_151 : decode cL_areFilms 151 = .ok (.aload_n 0, 1) := by decide +kernel
theorem dL_areFilms_152 : decode cL_areFilms 152 = .ok (.lload 4, 2) := by decide +kernel
theorem dL_areFilms_154 : decode cL_areFilms 154 = .ok (.lconst 1, 1) := by decide +kernel
theorem dL_areFilms_155 : decode cL_areFilms 155 = .ok (.iload 13, 2) := by decide +kernel
theorem dL_areFilms_157 : decode cL_areFilms 157 = .ok (.lshl, 1) := by decide +kernel
theorem dL_areFilms_158 : decode cL_areFilms 158 = .ok (.lor, 1) := by decide +kernel
theorem dL_areFilms_159 : decode cL_areFilms 159 = .ok (.invokestatic 143, 3) := by decide +kernel
theorem dL_areFilms_162 : decode cL_areFilms 162 = .ok (.istore 14, 2) := by decide +kernel
theorem dL_areFilms_164 : decode cL_areFilms 164 = .ok (.aload_n 0, 1) := by decide +kernel
theorem dL_areFilms_165 : decode cL_areFilms 165 = .ok (.lload 6, 2) := by decide +kernel
theorem dL_areFilms_167 : decode cL_areFilms 167 = .ok (.lconst 1, 1) := by decide +kernel
theorem dL_areFilms_168 : decode cL_areFilms 168 = .ok (.iload 13, 2) := by decide +kernel
theorem dL_areFilms_170 : decode cL_areFilms 170 = .ok (.lshl, 1) := by decide +kernel
theorem dL_areFilms_171 : decode cL_areFilms 171 = .ok (.ldc2_w 146, 3) := by decide +kernel
theorem dL_areFilms_174 : decode cL_areFilms 174 = .ok (.lxor, 1) := by decide +kernel
theorem dL_areFilms_175 : decode cL_areFilms 175 = .ok (.land, 1) := by decide +kernel
theorem dL_areFilms_176 : decode cL_areFilms 176 = .ok (.invokestatic 143, 3) := by decide +kernel
theorem dL_areFilms_179 : decode cL_areFilms 179 = .ok (.istore 15, 2) := by decide +kernel
theorem dL_areFilms_181 : decode cL_areFilms 181 = .ok (.iload 14, 2) := by decide +kernel
theorem dL_areFilms_183 : decode cL_areFilms 183 = .ok (.iconst (-1), 1) := by decide +kernel
theorem dL_areFilms_184 : decode cL_areFilms 184 = .ok (.if_icmp .ne 18, 3) := by decide +kernel
theorem dL_areFilms_187 : decode cL_areFilms 187 = .ok (.lload 11, 2) := by decide +kernel
theorem dL_areFilms_189 : decode cL_areFilms 189 = .ok (.iload 13, 2) := by decide +kernel
theorem dL_areFilms_191 : decode cL_areFilms 191 = .ok (.lshr, 1) := by decide +kernel
theorem dL_areFilms_192 : decode cL_areFilms 192 = .ok (.lconst 1, 1) := by decide +kernel
theorem dL_areFilms_193 : decode cL_areFilms 193 = .ok (.land, 1) := by decide +kernel
theorem dL_areFilms_194 : decode cL_areFilms 194 = .ok (.lconst 1, 1) := by decide +kernel
theorem dL_areFilms_195 : decode cL_areFilms 195 = .ok (.lcmp, 1) := by decide +kernel
theorem dL_areFilms_196 : decode cL_areFilms 196 = .ok (.ifCond .ne 43, 3) := by decide +kernel
theorem dL_areFilms_199 : decode cL_areFilms 199 = .ok (.goto 9, 3) := by decide +kernel
theorem dL_areFilms_202 : decode cL_areFilms 202 = .ok (.iload 14, 2) := by decide +kernel
theorem dL_areFilms_204 : decode cL_areFilms 204 = .ok (.iload_n 3, 1) := by decide +kernel
theorem dL_areFilms_205 : decode cL_areFilms 205 = .ok (.if_icmp .lt 34, 3) := by decide +kernel
theorem dL_areFilms_208 : decode cL_areFilms 208 = .ok (.iload 15, 2) := by decide +kernel
theorem dL_areFilms_210 : decode cL_areFilms 210 = .ok (.iconst (-1), 1) := by decide +kernel
theorem dL_areFilms_211 : decode cL_areFilms 211 = .ok (.if_icmp .ne 18, 3) := by decide +kernel
theorem dL_areFilms_214 : decode cL_areFilms 214 = .ok (.lload 9, 2) := by decide +kernel
theorem dL_areFilms_216 : decode cL_areFilms 216 = .ok (.iload 13, 2) := by decide +kernel
theorem dL_areFilms_218 : decode cL_areFilms 218 = .ok (.lshr, 1) := by decide +kernel
theorem dL_areFilms_219 : decode cL_areFilms 219 = .ok (.lconst 1, 1) := by decide +kernel
theorem dL_areFilms_220 : decode cL_areFilms 220 = .ok (.land, 1) := by decide +kernel
theorem dL_areFilms_221 : decode cL_areFilms 221 = .ok (.lconst 1, 1) := by decide +kernel
theorem dL_areFilms_222 : decode cL_areFilms 222 = .ok (.lcmp, 1) := by decide +kernel
theorem dL_areFilms_223 : decode cL_areFilms 223 = .ok (.ifCond .ne 16, 3) := by decide +kernel
theorem dL_areFilms_226 : decode cL_areFilms 226 = .ok (.goto 9, 3) := by decide +kernel
theorem dL_areFilms_229 : decode cL_areFilms 229 = .ok (.iload 15, 2) := by decide +kernel
theorem dL_areFilms_231 : decode cL_areFilms 231 = .ok (.iload_n 3, 1) := by decide +kernel
theorem dL_areFilms_232 : decode cL_areFilms 232 = .ok (.if_icmp .lt 7, 3) := by decide +kernel
theorem dL_areFilms_235 : decode cL_areFilms 235 = .ok (.iconst 1, 1) := by decide +kernel
theorem dL_areFilms_236 : decode cL_areFilms 236 = .ok (.goto 4, 3) := by decide +kernel
theorem dL_areFilms_239 : decode cL_areFilms 239 = .ok (.iconst 0, 1) := by decide +kernel
theorem dL_areFilms_240 : decode cL_areFilms 240 = .ok (.istore 8, 2) := by decide +kernel
theorem dL_areFilms_242 : decode cL_areFilms 242 = .ok (.iinc 13 1, 3) := by decide +kernel
theorem dL_areFilms_245 : decode cL_areFilms 245 = .ok (.goto (-106), 3) := by decide +kernel
theorem dL_areFilms_248 : decode cL_areFilms 248 = .ok (.iload_n 2, 1) := by decide +kernel
theorem dL_areFilms_249 : decode cL_areFilms 249 = .ok (.i2l, 1) := by decide +kernel
theorem dL_areFilms_250 : decode cL_areFilms 250 = .ok (.ldc2_w 148, 3) := by decide +kernel
theorem dL_areFilms_253 : decode cL_areFilms 253 = .ok (.lmul, 1) := by decide +kernel
theorem dL_areFilms_254 : decode cL_areFilms 254 = .ok (.iload_n 2, 1) := by decide +kernel
theorem dL_areFilms_255 : decode cL_areFilms 255 = .ok (.i2l, 1) := by decide +kernel
theorem dL_areFilms_256 : decode cL_areFilms 256 = .ok (.bipush 7, 2) := by decide +kernel
theorem dL_areFilms_258 : decode cL_areFilms 258 = .ok (.lshl, 1) := by decide +kernel
theorem dL_areFilms_259 : decode cL_areFilms 259 = .ok (.lxor, 1) := by decide +kernel
theorem dL_areFilms_260 : decode cL_areFilms 260 = .ok (.ldc2_w 150, 3) := by decide +kernel
theorem dL_areFilms_263 : decode cL_areFilms 263 = .ok (.land, 1) := by decide +kernel
theorem dL_areFilms_264 : decode cL_areFilms 264 = .ok (.lstore 13, 2) := by decide +kernel
theorem dL_areFilms_266 : decode cL_areFilms 266 = .ok (.aload_n 0, 1) := by decide +kernel
theorem dL_areFilms_267 : decode cL_areFilms 267 = .ok (.lload 13, 2) := by decide +kernel
theorem dL_areFilms_269 : decode cL_areFilms 269 = .ok (.lload 11, 2) := by decide +kernel
theorem dL_areFilms_271 : decode cL_areFilms 271 = .ok (.ldc2_w 146, 3) := by decide +kernel
theorem dL_areFilms_274 : decode cL_areFilms 274 = .ok (.lxor, 1) := by decide +kernel
theorem dL_areFilms_275 : decode cL_areFilms 275 = .ok (.land, 1) := by decide +kernel
theorem dL_areFilms_276 : decode cL_areFilms 276 = .ok (.lload 9, 2) := by decide +kernel
theorem dL_areFilms_278 : decode cL_areFilms 278 = .ok (.lor, 1) := by decide +kernel
theorem dL_areFilms_279 : decode cL_areFilms 279 = .ok (.invokestatic 143, 3) := by decide +kernel
theorem dL_areFilms_282 : decode cL_areFilms 282 = .ok (.istore 15, 2) := by decide +kernel
theorem dL_areFilms_284 : decode cL_areFilms 284 = .ok (.iload 8, 2) := by decide +kernel
theorem dL_areFilms_286 : decode cL_areFilms 286 = .ok (.ifCond .eq 31, 3) := by decide +kernel
theorem dL_areFilms_289 : decode cL_areFilms 289 = .ok (.iload 15, 2) := by decide +kernel
theorem dL_areFilms_291 : decode cL_areFilms 291 = .ok (.iload_n 3, 1) := by decide +kernel
theorem dL_areFilms_292 : decode cL_areFilms 292 = .ok (.if_icmp .lt 25, 3) := by decide +kernel
theorem dL_areFilms_295 : decode cL_areFilms 295 = .ok (.lload 9, 2) := by decide +kernel
theorem dL_areFilms_297 : decode cL_areFilms 297 = .ok (.lconst 0, 1) := by decide +kernel
theorem dL_areFilms_298 : decode cL_areFilms 298 = .ok (.lcmp, 1) := by decide +kernel
theorem dL_areFilms_299 : decode cL_areFilms 299 = .ok (.ifCond .eq 10, 3) := by decide +kernel
theorem dL_areFilms_302 : decode cL_areFilms 302 = .ok (.lload 11, 2) := by decide +kernel
theorem dL_areFilms_304 : decode cL_areFilms 304 = .ok (.lconst 0, 1) := by decide +kernel
theorem dL_areFilms_305 : decode cL_areFilms 305 = .ok (.lcmp, 1) := by decide +kernel
theorem dL_areFilms_306 : decode cL_areFilms 306 = .ok (.ifCond .ne 7, 3) := by decide +kernel
theorem dL_areFilms_309 : decode cL_areFilms 309 = .ok (.iload_n 3, 1) := by decide +kernel
theorem dL_areFilms_310 : decode cL_areFilms 310 = .ok (.ifCond .ne 7, 3) := by decide +kernel
theorem dL_areFilms_313 : decode cL_areFilms 313 = .ok (.iconst 1, 1) := by decide +kernel
theorem dL_areFilms_314 : decode cL_areFilms 314 = .ok (.goto 4, 3) := by decide +kernel
theorem dL_areFilms_317 : decode cL_areFilms 317 = .ok (.iconst 0, 1) := by decide +kernel
theorem dL_areFilms_318 : decode cL_areFilms 318 = .ok (.ireturn, 1) := by decide +kernel
theorem dL_isFoam_0 : decode cL_isFoam 0 = .ok (.iconst 0, 1) := by decide +kernel
theorem dL_isFoam_1 : decode cL_isFoam 1 = .ok (.istore_n 1, 1) := by decide +kernel
theorem dL_isFoam_2 : decode cL_isFoam 2 = .ok (.iconst 0, 1) := by decide +kernel
theorem dL_isFoam_3 : decode cL_isFoam 3 = .ok (.istore_n 2, 1) := by decide +kernel
theorem dL_isFoam_4 : decode cL_isFoam 4 = .ok (.iconst 0, 1) := by decide +kernel
theorem dL_isFoam_5 : decode cL_isFoam 5 = .ok (.istore_n 3, 1) := by decide +kernel
theorem dL_isFoam_6 : decode cL_isFoam 6 = .ok (.iconst 1, 1) := by decide +kernel
theorem dL_isFoam_7 : decode cL_isFoam 7 = .ok (.istore 4, 2) := by decide +kernel
theorem dL_isFoam_9 : decode cL_isFoam 9 = .ok (.iconst 0, 1) := by decide +kernel
theorem dL_isFoam_10 : decode cL_isFoam 10 = .ok (.istore 5, 2) := by decide +kernel
theorem dL_isFoam_12 : decode cL_isFoam 12 = .ok (.iload 5, 2) := by decide +kernel
theorem dL_isFoam_14 : decode cL_isFoam 14 = .ok (.bipush 8, 2) := by decide +kernel
theorem dL_isFoam_16 : decode cL_isFoam 16 = .ok (.if_icmp .ge 199, 3) := by decide +kernel
theorem dL_isFoam_19 : decode cL_isFoam 19 = .ok (.iload 4, 2) := by decide +kernel
theorem dL_isFoam_21 : decode cL_isFoam 21 = .ok (.ifCond .eq 194, 3) := by decide +kernel
theorem dL_isFoam_24 : decode cL_isFoam 24 = .ok (.iconst 0, 1) := by decide +kernel
theorem dL_isFoam_25 : decode cL_isFoam 25 = .ok (.istore 6, 2) := by decide +kernel
theorem dL_isFoam_27 : decode cL_isFoam 27 = .ok (.iconst 0, 1) := by decide +kernel
theorem dL_isFoam_28 : decode cL_isFoam 28 = .ok (.istore 7, 2) := by decide +kernel
theorem dL_isFoam_30 : decode cL_isFoam 30 = .ok (.iconst 0, 1) := by decide +kernel
theorem dL_isFoam_31 : decode cL_isFoam 31 = .ok (.istore 8, 2) := by decide +kernel
theorem dL_isFoam_33 : decode cL_isFoam 33 = .ok (.iload 8, 2) := by decide +kernel
theorem dL_isFoam_35 : decode cL_isFoam 35 = .ok (.bipush 8, 2) := by decide +kernel
theorem dL_isFoam_37 : decode cL_isFoam 37 = .ok (.if_icmp .ge 78, 3) := by decide +kernel
theorem dL_isFoam_40 : decode cL_isFoam 40 = .ok (.aload_n 0, 1) := by decide +kernel
theorem dL_isFoam_41 : decode cL_isFoam 41 = .ok (.iload 5, 2) := by decide +kernel
theorem dL_isFoam_43 : decode cL_isFoam 43 = .ok (.iload 8, 2) := by decide +kernel
theorem dL_isFoam_45 : decode cL_isFoam 45 = .ok (.invokestatic 152, 3) := by decide +kernel
theorem dL_isFoam_48 : decode cL_isFoam 48 = .ok (.istore 9, 2) := by decide +kernel
theorem dL_isFoam_50 : decode cL_isFoam 50 = .ok (.iload 6, 2) := by decide +kernel
theorem dL_isFoam_52 : decode cL_isFoam 52 = .ok (.iload 9, 2) := by decide +kernel
theorem dL_isFoam_54 : decode cL_isFoam 54 = .ok (.iadd, 1) := by decide +kernel
theorem dL_isFoam_55 : decode cL_isFoam 55 = .ok (.istore 6, 2) := by decide +kernel
theorem dL_isFoam_57 : decode cL_isFoam 57 = .ok (.iload 7, 2) := by decide +kernel
theorem dL_isFoam_59 : decode cL_isFoam 59 = .ok (.iload 9, 2) := by decide +kernel
theorem dL_isFoam_61 : decode cL_isFoam 61 = .ok (.ifCond .le 7, 3) := by decide +kernel
theorem dL_isFoam_64 : decode cL_isFoam 64 = .ok (.iconst 1, 1) := by decide +kernel
theorem dL_isFoam_65 : decode cL_isFoam 65 = .ok (.goto 4, 3) := by decide +kernel
theorem dL_isFoam_68 : decode cL_isFoam 68 = .ok (.iconst 0, 1) := by decide +kernel
theorem dL_isFoam_69 : decode cL_isFoam 69 = .ok (.iadd, 1) := by decide +kernel
theorem dL_isFoam_70 : decode cL_isFoam 70 = .ok (.istore 7, 2) := by decide +kernel
theorem dL_isFoam_72 : decode cL_isFoam 72 = .ok (.iload 4, 2) := by decide +kernel
theorem dL_isFoam_74 : decode cL_isFoam 74 = .ok (.ifCond .eq 32, 3) := by decide +kernel
theorem dL_isFoam_77 : decode cL_isFoam 77 = .ok (.iload 9, 2) := by decide +kernel
theorem dL_isFoam_79 : decode cL_isFoam 79 = .ok (.aload_n 0, 1) := by decide +kernel
theorem dL_isFoam_80 : decode cL_isFoam 80 = .ok (.iload 8, 2) := by decide +kernel
theorem dL_isFoam_82 : decode cL_isFoam 82 = .ok (.iload 5, 2) := by decide +kernel
theorem dL_isFoam_84 : decode cL_isFoam 84 = .ok (.invokestatic 152, 3) := by decide +kernel
theorem dL_isFoam_87 : decode cL_isFoam 87 = .ok (.if_icmp .ne 19, 3) := by decide +kernel
theorem dL_isFoam_90 : decode cL_isFoam 90 = .ok (.iload 8, 2) := by decide +kernel
theorem dL_isFoam_92 : decode cL_isFoam 92 = .ok (.iload 5, 2) := by decide +kernel
theorem dL_isFoam_94 : decode cL_isFoam 94 = .ok (.if_icmp .ne 8, 3) := by decide +kernel
theorem dL_isFoam_97 : decode cL_isFoam 97 = .ok (.iload 9, 2) := by decide +kernel
theorem dL_isFoam_99 : decode cL_isFoam 99 = .ok (.ifCond .ne 7, 3) := by decide +kernel
theorem dL_isFoam_102 : decode cL_isFoam 102 = .ok (.iconst 1, 1) := by decide +kernel
theorem dL_isFoam_103 : decode cL_isFoam 103 = .ok (.goto 4, 3) := by decide +kernel
theorem dL_isFoam_106 : decode cL_isFoam 106 = .ok (.iconst 0, 1) := by decide +kernel
theorem dL_isFoam_107 : decode cL_isFoam 107 = .ok (.istore 4, 2) := by decide +kernel
theorem dL_isFoam_109 : decode cL_isFoam 109 = .ok (.iinc 8 1, 3) := by decide +kernel
theorem dL_isFoam_112 : decode cL_isFoam 112 = .ok (.goto (-79), 3) := by decide +kernel
theorem dL_isFoam_115 : decode cL_isFoam 115 = .ok (.aload_n 0, 1) := by decide +kernel
theorem dL_isFoam_116 : decode cL_isFoam 116 = .ok (.iload 5, 2) := by decide +kernel
theorem dL_isFoam_118 : decode cL_isFoam 118 = .ok (.iconst 0, 1) := by decide +kernel
theorem dL_isFoam_119 : decode cL_isFoam 119 = .ok (.invokestatic 99, 3) := by decide +kernel
theorem dL_isFoam_122 : decode cL_isFoam 122 = .ok (.istore 8, 2) := by decide +kernel
theorem dL_isFoam_124 : decode cL_isFoam 124 = .ok (.aload_n 0, 1) := by decide +kernel
theorem dL_isFoam_125 : decode cL_isFoam 125 = .ok (.iload 5, 2) := by decide +kernel
theorem dL_isFoam_127 : decode cL_isFoam 127 = .ok (.iconst 1, 1) := by decide +kernel
theorem dL_isFoam_128 : decode cL_isFoam 128 = .ok (.invokestatic 99, 3) := by decide +kernel
theorem dL_isFoam_131 : decode cL_isFoam 131 = .ok (.istore 9, 2) := by decide +kernel
theorem dL_isFoam_133 : decode cL_isFoam 133 = .ok (.iload_n 1, 1) := by decide +kernel
theorem dL_isFoam_134 : decode cL_isFoam 134 = .ok (.iload 6, 2) := by decide +kernel
theorem dL_isFoam_136 : decode cL_isFoam 136 = .ok (.iadd, 1) := by decide +kernel
theorem dL_isFoam_137 : decode cL_isFoam 137 = .ok (.istore_n 1, 1) := by decide +kernel
theorem dL_isFoam_138 : decode cL_isFoam 138 = .ok (.iload_n 2, 1) := by decide +kernel
theorem dL_isFoam_139 : decode cL_isFoam 139 = .ok (.iload 8, 2) := by decide +kernel
theorem dL_isFoam_141 : decode cL_isFoam 141 = .ok (.iadd, 1) := by decide +kernel
theorem dL_isFoam_142 : decode cL_isFoam 142 = .ok (.istore_n 2, 1) := by decide +kernel
theorem dL_isFoam_143 : decode cL_isFoam 143 = .ok (.iload 4, 2) := by decide +kernel
theorem dL_isFoam_145 : decode cL_isFoam 145 = .ok (.ifCond .eq 61, 3) := by decide +kernel
theorem dL_isFoam_148 : decode cL_isFoam 148 = .ok (.iload 6, 2) := by decide +kernel
theorem dL_isFoam_150 : decode cL_isFoam 150 = .ok (.aload_n 0, 1) := by decide +kernel
theorem dL_isFoam_151 : decode cL_isFoam 151 = .ok (.iload 5, 2) := by decide +kernel
theorem dL_isFoam_153 : decode cL_isFoam 153 = .ok (.iconst 2, 1) := by decide +kernel
theorem dL_isFoam_154 : decode cL_isFoam 154 = .ok (.invokestatic 99, 3) := by decide +kernel
theorem dL_isFoam_157 : decode cL_isFoam 157 = .ok (.if_icmp .ne 49, 3) := by decide +kernel
theorem dL_isFoam_160 : decode cL_isFoam 160 = .ok (.iload 7, 2) := by decide +kernel
theorem dL_isFoam_162 : decode cL_isFoam 162 = .ok (.aload_n 0, 1) := by decide +kernel
theorem dL_isFoam_163 : decode cL_isFoam 163 = .ok (.iload 5, 2) := by decide +kernel
theorem dL_isFoam_165 : decode cL_isFoam 165 = .ok (.iconst 3, 1) := by decide +kernel
theorem dL_isFoam_166 : decode cL_isFoam 166 = .ok (.invokestatic 99, 3) := by decide +kernel
theorem dL_isFoam_169 : decode cL_isFoam 169 = .ok (.if_icmp .ne 37, 3) := by decide +kernel
theorem dL_isFoam_172 : decode cL_isFoam 172 = .ok (.iload 9, 2) := by decide +kernel
theorem dL_isFoam_174 : decode cL_isFoam 174 = .ok (.iload 8, 2) := by decide +kernel
theorem dL_isFoam_176 : decode cL_isFoam 176 = .ok (.if_icmp .gt 30, 3) := by decide +kernel
theorem dL_isFoam_179 : decode cL_isFoam 179 = .ok (.iload 9, 2) := by decide +kernel
theorem dL_isFoam_181 : decode cL_isFoam 181 = .ok (.ifCond .le 7, 3) := by decide +kernel
theorem dL_isFoam_184 : decode cL_isFoam 184 = .ok (.iconst 1, 1) := by decide +kernel
theorem dL_isFoam_185 : decode cL_isFoam 185 = .ok (.goto 4, 3) := by decide +kernel
theorem dL_isFoam_188 : decode cL_isFoam 188 = .ok (.iconst 0, 1) := by decide +kernel
theorem dL_isFoam_189 : decode cL_isFoam 189 = .ok (.iload 8, 2) := by decide +kernel
theorem dL_isFoam_191 : decode cL_isFoam 191 = .ok (.ifCond .le 7, 3) := by decide +kernel
theorem dL_isFoam_194 : decode cL_isFoam 194 = .ok (.iconst 1, 1) := by decide +kernel
theorem dL_isFoam_195 : decode cL_isFoam 195 = .ok (.goto 4, 3) := by decide +kernel
theorem dL_isFoam_198 : decode cL_isFoam 198 = .ok (.iconst 0, 1) := by decide +kernel
theorem dL_isFoam_199 : decode cL_isFoam 199 = .ok (.if_icmp .ne 7, 3) := by decide +kernel
theorem dL_isFoam_202 : decode cL_isFoam 202 = .ok (.iconst 1, 1) := by decide +kernel
theorem dL_isFoam_203 : decode cL_isFoam 203 = .ok (.goto 4, 3) := by decide +kernel
theorem dL_isFoam_206 : decode cL_isFoam 206 = .ok (.iconst 0, 1) := by decide +kernel
theorem dL_isFoam_207 : decode cL_isFoam 207 = .ok (.istore 4, 2) := by decide +kernel
theorem dL_isFoam_209 : decode cL_isFoam 209 = .ok (.iinc 5 1, 3) := by decide +kernel
theorem dL_isFoam_212 : decode cL_isFoam 212 = .ok (.goto (-200), 3) := by decide +kernel
theorem dL_isFoam_215 : decode cL_isFoam 215 = .ok (.iconst 1, 1) := by decide +kernel
theorem dL_isFoam_216 : decode cL_isFoam 216 = .ok (.istore 5, 2) := by decide +kernel
theorem dL_isFoam_218 : decode cL_isFoam 218 = .ok (.iload 5, 2) := by decide +kernel
theorem dL_isFoam_220 : decode cL_isFoam 220 = .ok (.iconst 5, 1) := by decide +kernel
theorem dL_isFoam_221 : decode cL_isFoam 221 = .ok (.if_icmp .ge 18, 3) := by decide +kernel
theorem dL_isFoam_224 : decode cL_isFoam 224 = .ok (.iload_n 3, 1) := by decide +kernel
theorem dL_isFoam_225 : decode cL_isFoam 225 = .ok (.aload_n 0, 1) := by decide +kernel
theorem dL_isFoam_226 : decode cL_isFoam 226 = .ok (.iload 5, 2) := by decide +kernel
theorem dL_isFoam_228 : decode cL_isFoam 228 = .ok (.invokestatic 154, 3) := by decide +kernel
theorem dL_isFoam_231 : decode cL_isFoam 231 = .ok (.iadd, 1) := by decide +kernel
theorem dL_isFoam_232 : decode cL_isFoam 232 = .ok (.istore_n 3, 1) := by decide +kernel
theorem dL_isFoam_233 : decode cL_isFoam 233 = .ok (.iinc 5 1, 3) := by decide +kernel
theorem dL_isFoam_236 : decode cL_isFoam 236 = .ok (.goto (-18), 3) := by decide +kernel
theorem dL_isFoam_239 : decode cL_isFoam 239 = .ok (.aload_n 0, 1) := by decide +kernel
theorem dL_isFoam_240 : decode cL_isFoam 240 = .ok (.iconst 0, 1) := by decide +kernel
theorem dL_isFoam_241 : decode cL_isFoam 241 = .ok (.invokestatic 104, 3) := by decide +kernel
theorem dL_isFoam_244 : decode cL_isFoam 244 = .ok (.istore 5, 2) := by decide +kernel
theorem dL_isFoam_246 : decode cL_isFoam 246 = .ok (.aload_n 0, 1) := by decide +kernel
theorem dL_isFoam_247 : decode cL_isFoam 247 = .ok (.iconst 1, 1) := by decide +kernel
theorem dL_isFoam_248 : decode cL_isFoam 248 = .ok (.invokestatic 104, 3) := by decide +kernel
theorem dL_isFoam_251 : decode cL_isFoam 251 = .ok (.istore 6, 2) := by decide +kernel
theorem dL_isFoam_253 : decode cL_isFoam 253 = .ok (.aload_n 0, 1) := by decide +kernel
theorem dL_isFoam_254 : decode cL_isFoam 254 = .ok (.invokevirtual 156, 3) := by decide +kernel
theorem dL_isFoam_257 : decode cL_isFoam 257 = .ok (.istore 7, 2) := by decide +kernel
theorem dL_isFoam_259 : decode cL_isFoam 259 = .ok (.iload 4, 2) := by decide +kernel
theorem dL_isFoam_261 : decode cL_isFoam 261 = .ok (.ifCond .eq 80, 3) := by decide +kernel
theorem dL_isFoam_264 : decode cL_isFoam 264 = .ok (.iload_n 1, 1) := by decide +kernel
theorem dL_isFoam_265 : decode cL_isFoam 265 = .ok (.iconst 2, 1) := by decide +kernel
theorem dL_isFoam_266 : decode cL_isFoam 266 = .ok (.iload 5, 2) := by decide +kernel
theorem dL_isFoam_268 : decode cL_isFoam 268 = .ok (.imul, 1) := by decide +kernel
theorem dL_isFoam_269 : decode cL_isFoam 269 = .ok (.if_icmp .ne 72, 3) := by decide +kernel
theorem dL_isFoam_272 : decode cL_isFoam 272 = .ok (.iload_n 2, 1) := by decide +kernel
theorem dL_isFoam_273 : decode cL_isFoam 273 = .ok (.bipush 36, 2) := by decide +kernel
theorem dL_isFoam_275 : decode cL_isFoam 275 = .ok (.if_icmp .ne 66, 3) := by decide +kernel
theorem dL_isFoam_278 : decode cL_isFoam 278 = .ok (.iload_n 3, 1) := by decide +kernel
theorem dL_isFoam_279 : decode cL_isFoam 279 = .ok (.bipush 25, 2) := by decide +kernel
theorem dL_isFoam_281 : decode cL_isFoam 281 = .ok (.if_icmp .ne 60, 3) := by decide +kernel
theorem dL_isFoam_284 : decode cL_isFoam 284 = .ok (.aload_n 0, 1) := by decide +kernel
theorem dL_isFoam_285 : decode cL_isFoam 285 = .ok (.iconst 4, 1) := by decide +kernel
theorem dL_isFoam_286 : decode cL_isFoam 286 = .ok (.invokestatic 104, 3) := by decide +kernel
theorem dL_isFoam_289 : decode cL_isFoam 289 = .ok (.ifCond .ne 52, 3) := by decide +kernel
theorem dL_isFoam_292 : decode cL_isFoam 292 = .ok (.iload 6, 2) := by decide +kernel
theorem dL_isFoam_294 : decode cL_isFoam 294 = .ok (.iload 5, 2) := by decide +kernel
theorem dL_isFoam_296 : decode cL_isFoam 296 = .ok (.if_icmp .gt 45, 3) := by decide +kernel
theorem dL_isFoam_299 : decode cL_isFoam 299 = .ok (.iload 7, 2) := by decide +kernel
theorem dL_isFoam_301 : decode cL_isFoam 301 = .ok (.ifCond .lt 40, 3) := by decide +kernel
theorem dL_isFoam_304 : decode cL_isFoam 304 = .ok (.iload 7, 2) := by decide +kernel
theorem dL_isFoam_306 : decode cL_isFoam 306 = .ok (.ifCond .le 7, 3) := by decide +kernel
theorem dL_isFoam_309 : decode cL_isFoam 309 = .ok (.iconst 1, 1) := by decide +kernel
theorem dL_isFoam_310 : decode cL_isFoam 310 = .ok (.goto 4, 3) := by decide +kernel
theorem dL_isFoam_313 : decode cL_isFoam 313 = .ok (.iconst 0, 1) := by decide +kernel
theorem dL_isFoam_314 : decode cL_isFoam 314 = .ok (.iload 6, 2) := by decide +kernel
theorem dL_isFoam_316 : decode cL_isFoam 316 = .ok (.iload 5, 2) := by decide +kernel
theorem dL_isFoam_318 : decode cL_isFoam 318 = .ok (.if_icmp .ge 7, 3) := by decide +kernel
theorem dL_isFoam_321 : decode cL_isFoam 321 = .ok (.iconst 1, 1) := by decide +kernel
theorem dL_isFoam_322 : decode cL_isFoam 322 = .ok (.goto 4, 3) := by decide +kernel
theorem dL_isFoam_325 : decode cL_isFoam 325 = .ok (.iconst 0, 1) := by decide +kernel
theorem dL_isFoam_326 : decode cL_isFoam 326 = .ok (.if_icmp .ne 15, 3) := by decide +kernel
theorem dL_isFoam_329 : decode cL_isFoam 329 = .ok (.aload_n 0, 1) := by decide +kernel
theorem dL_isFoam_330 : decode cL_isFoam 330 = .ok (.iconst 3, 1) := by decide +kernel
theorem dL_isFoam_331 : decode cL_isFoam 331 = .ok (.invokestatic 104, 3) := by decide +kernel
theorem dL_isFoam_334 : decode cL_isFoam 334 = .ok (.ifCond .lt 7, 3) := by decide +kernel
theorem dL_isFoam_337 : decode cL_isFoam 337 = .ok (.iconst 1, 1) := by decide +kernel
theorem dL_isFoam_338 : decode cL_isFoam 338 = .ok (.goto 4, 3) := by decide +kernel
theorem dL_isFoam_341 : decode cL_isFoam 341 = .ok (.iconst 0, 1) := by decide +kernel
theorem dL_isFoam_342 : decode cL_isFoam 342 = .ok (.ireturn, 1) := by decide +kernel
theorem dL_breathes_0 : decode cL_breathes 0 = .ok (.aload_n 0, 1) := by decide +kernel
theorem dL_breathes_1 : decode cL_breathes 1 = .ok (.iconst 0, 1) := by decide +kernel
theorem dL_breathes_2 : decode cL_breathes 2 = .ok (.invokestatic 104, 3) := by decide +kernel
theorem dL_breathes_5 : decode cL_breathes 5 = .ok (.istore_n 2, 1) := by decide +kernel
theorem dL_breathes_6 : decode cL_breathes 6 = .ok (.aload_n 0, 1) := by decide +kernel
theorem dL_breathes_7 : decode cL_breathes 7 = .ok (.iconst 3, 1) := by decide +kernel
theorem dL_breathes_8 : decode cL_breathes 8 = .ok (.invokestatic 104, 3) := by decide +kernel
theorem dL_breathes_11 : decode cL_breathes 11 = .ok (.istore_n 3, 1) := by decide +kernel
theorem dL_breathes_12 : decode cL_breathes 12 = .ok (.aload_n 0, 1) := by decide +kernel
theorem dL_breathes_13 : decode cL_breathes 13 = .ok (.invokevirtual 156, 3) := by decide +kernel
theorem dL_breathes_16 : decode cL_breathes 16 = .ok (.istore 4, 2) := by decide +kernel
theorem dL_breathes_18 : decode cL_breathes 18 = .ok (.aload_n 0, 1) := by decide +kernel
theorem dL_breathes_19 : decode cL_breathes 19 = .ok (.iconst 1, 1) := by decide +kernel
theorem dL_breathes_20 : decode cL_breathes 20 = .ok (.invokestatic 104, 3) := by decide +kernel
theorem dL_breathes_23 : decode cL_breathes 23 = .ok (.istore 5, 2) := by decide +kernel
theorem dL_breathes_25 : decode cL_breathes 25 = .ok (.aload_n 0, 1) := by decide +kernel
theorem dL_breathes_26 : decode cL_breathes 26 = .ok (.iload_n 1, 1) := by decide +kernel
theorem dL_breathes_27 : decode cL_breathes 27 = .ok (.invokestatic 159, 3) := by decide +kernel
theorem dL_breathes_30 : decode cL_breathes 30 = .ok (.istore 6, 2) := by decide +kernel
theorem dL_breathes_32 : decode cL_breathes 32 = .ok (.aload_n 0, 1) := by decide +kernel
theorem dL_breathes_33 : decode cL_breathes 33 = .ok (.iconst 0, 1) := by decide +kernel
theorem dL_breathes_34 : decode cL_breathes 34 = .ok (.invokestatic 104, 3) := by decide +kernel
theorem dL_breathes_37 : decode cL_breathes 37 = .ok (.istore 7, 2) := by decide +kernel
theorem dL_breathes_39 : decode cL_breathes 39 = .ok (.iload 6, 2) := by decide +kernel
theorem dL_breathes_41 : decode cL_breathes 41 = .ok (.invokestatic 161, 3) := by decide +kernel
theorem dL_breathes_44 : decode cL_breathes 44 = .ok (.ifCond .ne 104, 3) := by decide +kernel
theorem dL_breathes_47 : decode cL_breathes 47 = .ok (.aload_n 0, 1) := by decide +kernel
theorem dL_breathes_48 : decode cL_breathes 48 = .ok (.iconst 3, 1) := by decide +kernel
theorem dL_breathes_49 : decode cL_breathes 49 = .ok (.invokestatic 104, 3) := by decide +kernel
theorem dL_breathes_52 : decode cL_breathes 52 = .ok (.iload_n 3, 1) := by decide +kernel
theorem dL_breathes_53 : decode cL_breathes 53 = .ok (.iload_n 2, 1) := by decide +kernel
theorem dL_breathes_54 : decode cL_breathes 54 = .ok (.iadd, 1) := by decide +kernel
theorem dL_breathes_55 : decode cL_breathes 55 = .ok (.iload 7, 2) := by decide +kernel
theorem dL_breathes_57 : decode cL_breathes 57 = .ok (.isub, 1) := by decide +kernel
theorem dL_breathes_58 : decode cL_breathes 58 = .ok (.if_icmp .ne 94, 3) := by decide +kernel
theorem dL_breathes_61 : decode cL_breathes 61 = .ok (.iload 6, 2) := by decide +kernel
theorem dL_breathes_63 : decode cL_breathes 63 = .ok (.ifCond .le 7, 3) := by decide +kernel
theorem dL_breathes_66 : decode cL_breathes 66 = .ok (.iconst 1, 1) := by decide +kernel
theorem dL_breathes_67 : decode cL_breathes 67 = .ok (.goto 4, 3) := by decide +kernel
theorem dL_breathes_70 : decode cL_breathes 70 = .ok (.iconst 0, 1) := by decide +kernel
theorem dL_breathes_71 : decode cL_breathes 71 = .ok (.iload 4, 2) := by decide +kernel
theorem dL_breathes_73 : decode cL_breathes 73 = .ok (.ifCond .le 7, 3) := by decide +kernel
theorem dL_breathes_76 : decode cL_breathes 76 = .ok (.iconst 1, 1) := by decide +kernel
theorem dL_breathes_77 : decode cL_breathes 77 = .ok (.goto 4, 3) := by decide +kernel
theorem dL_breathes_80 : decode cL_breathes 80 = .ok (.iconst 0, 1) := by decide +kernel
theorem dL_breathes_81 : decode cL_breathes 81 = .ok (.if_icmp .ne 71, 3) := by decide +kernel
theorem dL_breathes_84 : decode cL_breathes 84 = .ok (.iload 6, 2) := by decide +kernel
theorem dL_breathes_86 : decode cL_breathes 86 = .ok (.ifCond .ne 12, 3) := by decide +kernel
theorem dL_breathes_89 : decode cL_breathes 89 = .ok (.iload 7, 2) := by decide +kernel
theorem dL_breathes_91 : decode cL_breathes 91 = .ok (.iload_n 2, 1) := by decide +kernel
theorem dL_breathes_92 : decode cL_breathes 92 = .ok (.if_icmp .ne 60, 3) := by decide +kernel
theorem dL_breathes_95 : decode cL_breathes 95 = .ok (.goto 9, 3) := by decide +kernel
theorem dL_breathes_98 : decode cL_breathes 98 = .ok (.iload 7, 2) := by decide +kernel
theorem dL_breathes_100 : decode cL_breathes 100 = .ok (.iload_n 2, 1) := by decide +kernel
theorem dL_breathes_101 : decode cL_breathes 101 = .ok (.if_icmp .ge 51, 3) := by decide +kernel
theorem dL_breathes_104 : decode cL_breathes 104 = .ok (.aload_n 0, 1) := by decide +kernel
theorem dL_breathes_105 : decode cL_breathes 105 = .ok (.iconst 1, 1) := by decide +kernel
theorem dL_breathes_106 : decode cL_breathes 106 = .ok (.invokestatic 104, 3) := by decide +kernel
theorem dL_breathes_109 : decode cL_breathes 109 = .ok (.iload 5, 2) := by decide +kernel
theorem dL_breathes_111 : decode cL_breathes 111 = .ok (.if_icmp .ne 41, 3) := by decide +kernel
theorem dL_breathes_114 : decode cL_breathes 114 = .ok (.aload_n 0, 1) := by decide +kernel
theorem dL_breathes_115 : decode cL_breathes 115 = .ok (.invokevirtual 156, 3) := by decide +kernel
theorem dL_breathes_118 : decode cL_breathes 118 = .ok (.iload 4, 2) := by decide +kernel
theorem dL_breathes_120 : decode cL_breathes 120 = .ok (.iload_n 1, 1) := by decide +kernel
theorem dL_breathes_121 : decode cL_breathes 121 = .ok (.if_icmp .le 10, 3) := by decide +kernel
theorem dL_breathes_124 : decode cL_breathes 124 = .ok (.iload 4, 2) := by decide +kernel
theorem dL_breathes_126 : decode cL_breathes 126 = .ok (.iload_n 1, 1) := by decide +kernel
theorem dL_breathes_127 : decode cL_breathes 127 = .ok (.isub, 1) := by decide +kernel
theorem dL_breathes_128 : decode cL_breathes 128 = .ok (.goto 4, 3) := by decide +kernel
theorem dL_breathes_131 : decode cL_breathes 131 = .ok (.iconst 0, 1) := by decide +kernel
theorem dL_breathes_132 : decode cL_breathes 132 = .ok (.if_icmp .ne 20, 3) := by decide +kernel
theorem dL_breathes_135 : decode cL_breathes 135 = .ok (.iload 4, 2) := by decide +kernel
theorem dL_breathes_137 : decode cL_breathes 137 = .ok (.iload_n 1, 1) := by decide +kernel
theorem dL_breathes_138 : decode cL_breathes 138 = .ok (.if_icmp .gt 10, 3) := by decide +kernel
theorem dL_breathes_141 : decode cL_breathes 141 = .ok (.iload 7, 2) := by decide +kernel
theorem dL_breathes_143 : decode cL_breathes 143 = .ok (.iload 5, 2) := by decide +kernel
theorem dL_breathes_145 : decode cL_breathes 145 = .ok (.if_icmp .ne 7, 3) := by decide +kernel
theorem dL_breathes_148 : decode cL_breathes 148 = .ok (.iconst 1, 1) := by decide +kernel
theorem dL_breathes_149 : decode cL_breathes 149 = .ok (.goto 4, 3) := by decide +kernel
theorem dL_breathes_152 : decode cL_breathes 152 = .ok (.iconst 0, 1) := by decide +kernel
theorem dL_breathes_153 : decode cL_breathes 153 = .ok (.istore 8, 2) := by decide +kernel
theorem dL_breathes_155 : decode cL_breathes 155 = .ok (.iload 8, 2) := by decide +kernel
theorem dL_breathes_157 : decode cL_breathes 157 = .ok (.ifCond .eq 8, 3) := by decide +kernel
theorem dL_breathes_160 : decode cL_breathes 160 = .ok (.iload 6, 2) := by decide +kernel
theorem dL_breathes_162 : decode cL_breathes 162 = .ok (.goto 5, 3) := by decide +kernel
theorem dL_breathes_165 : decode cL_breathes 165 = .ok (.bipush (-9), 2) := by decide +kernel
theorem dL_breathes_167 : decode cL_breathes 167 = .ok (.ireturn, 1) := by decide +kernel
theorem dL_does_0 : decode cL_does 0 = .ok (.iload_n 3, 1) := by decide +kernel
theorem dL_does_1 : decode cL_does 1 = .ok (.bipush 20, 2) := by decide +kernel
theorem dL_does_3 : decode cL_does 3 = .ok (.idiv, 1) := by decide +kernel
theorem dL_does_4 : decode cL_does 4 = .ok (.istore 4, 2) := by decide +kernel
theorem dL_does_6 : decode cL_does 6 = .ok (.iload 4, 2) := by decide +kernel
theorem dL_does_8 : decode cL_does 8 = .ok (.bipush 40, 2) := by decide +kernel
theorem dL_does_10 : decode cL_does 10 = .ok (.idiv, 1) := by decide +kernel
theorem dL_does_11 : decode cL_does 11 = .ok (.istore 5, 2) := by decide +kernel
theorem dL_does_13 : decode cL_does 13 = .ok (.iload_n 3, 1) := by decide +kernel
theorem dL_does_14 : decode cL_does 14 = .ok (.bipush 20, 2) := by decide +kernel
theorem dL_does_16 : decode cL_does 16 = .ok (.irem, 1) := by decide +kernel
theorem dL_does_17 : decode cL_does 17 = .ok (.tableswitch 360 0 17 #[87, 101, 101, 101, 129, 129, 129, 162, 195, 195, 195, 264, 264, 264, 264, 264, 297, 319], 87) := by decide +kernel
theorem dL_does_104 : decode cL_does 104 = .ok (.aload_n 0, 1) := by decide +kernel
theorem dL_does_105 : decode cL_does 105 = .ok (.iload 4, 2) := by decide +kernel
theorem dL_does_107 : decode cL_does 107 = .ok (.iconst 3, 1) := by decide +kernel
theorem dL_does_108 : decode cL_does 108 = .ok (.irem, 1) := by decide +kernel
theorem dL_does_109 : decode cL_does 109 = .ok (.iload 5, 2) := by decide +kernel
theorem dL_does_111 : decode cL_does 111 = .ok (.bipush 11, 2) := by decide +kernel
theorem dL_does_113 : decode cL_does 113 = .ok (.irem, 1) := by decide +kernel
theorem dL_does_114 : decode cL_does 114 = .ok (.invokestatic 164, 3) := by decide +kernel
theorem dL_does_117 : decode cL_does 117 = .ok (.ireturn, 1) := by decide +kernel
theorem dL_does_118 : decode cL_does 118 = .ok (.aload_n 0, 1) := by decide +kernel
theorem dL_does_119 : decode cL_does 119 = .ok (.iload 4, 2) := by decide +kernel
theorem dL_does_121 : decode cL_does 121 = .ok (.bipush 61, 2) := by decide +kernel
theorem dL_does_123 : decode cL_does 123 = .ok (.irem, 1) := by decide +kernel
theorem dL_does_124 : decode cL_does 124 = .ok (.iload 5, 2) := by decide +kernel
theorem dL_does_126 : decode cL_does 126 = .ok (.iconst 3, 1) := by decide +kernel
theorem dL_does_127 : decode cL_does 127 = .ok (.irem, 1) := by decide +kernel
theorem dL_does_128 : decode cL_does 128 = .ok (.ifCond .ne 7, 3) := by decide +kernel
theorem dL_does_131 : decode cL_does 131 = .ok (.iconst 0, 1) := by decide +kernel
theorem dL_does_132 : decode cL_does 132 = .ok (.goto 10, 3) := by decide +kernel
theorem dL_does_135 : decode cL_does 135 = .ok (.iload 5, 2) := by decide +kernel
theorem dL_does_137 : decode cL_does 137 = .ok (.iconst 3, 1) := by decide +kernel
theorem dL_does_138 : decode cL_does 138 = .ok (.idiv, 1) := by decide +kernel
theorem dL_does_139 : decode cL_does 139 = .ok (.bipush 52, 2) := by decide +kernel
theorem dL_does_141 : decode cL_does 141 = .ok (.irem, 1) := by decide +kernel
theorem dL_does_142 : decode cL_does 142 = .ok (.invokestatic 166, 3) := by decide +kernel
theorem dL_does_145 : decode cL_does 145 = .ok (.ireturn, 1) := by decide +kernel
theorem dL_does_146 : decode cL_does 146 = .ok (.aload_n 0, 1) := by decide +kernel
theorem dL_does_147 : decode cL_does 147 = .ok (.iload 4, 2) := by decide +kernel
theorem dL_does_149 : decode cL_does 149 = .ok (.bipush 37, 2) := by decide +kernel
theorem dL_does_151 : decode cL_does 151 = .ok (.irem, 1) := by decide +kernel
theorem dL_does_152 : decode cL_does 152 = .ok (.invokestatic 168, 3) := by decide +kernel
theorem dL_does_155 : decode cL_does 155 = .ok (.istore 6, 2) := by decide +kernel
theorem dL_does_157 : decode cL_does 157 = .ok (.aload_n 1, 1) := by decide +kernel
theorem dL_does_158 : decode cL_does 158 = .ok (.iconst 0, 1) := by decide +kernel
theorem dL_does_159 : decode cL_does 159 = .ok (.dup2, 1) := by decide +kernel
theorem dL_does_160 : decode cL_does 160 = .ok (.iaload, 1) := by decide +kernel
theorem dL_does_161 : decode cL_does 161 = .ok (.iload 6, 2) := by decide +kernel
theorem dL_does_163 : decode cL_does 163 = .ok (.invokestatic 161, 3) := by decide +kernel
theorem dL_does_166 : decode cL_does 166 = .ok (.ifCond .eq 7, 3) := by decide +kernel
theorem dL_does_169 : decode cL_does 169 = .ok (.iconst 0, 1) := by decide +kernel
theorem dL_does_170 : decode cL_does 170 = .ok (.goto 4, 3) := by decide +kernel
theorem dL_does_173 : decode cL_does 173 = .ok (.iconst 1, 1) := by decide +kernel
theorem dL_does_174 : decode cL_does 174 = .ok (.iadd, 1) := by decide +kernel
theorem dL_does_175 : decode cL_does 175 = .ok (.iastore, 1) := by decide +kernel
theorem dL_does_176 : decode cL_does 176 = .ok (.iload 6, 2) := by decide +kernel
theorem dL_does_178 : decode cL_does 178 = .ok (.ireturn, 1) := by decide +kernel
theorem dL_does_179 : decode cL_does 179 = .ok (.aload_n 0, 1) := by decide +kernel
theorem dL_does_180 : decode cL_does 180 = .ok (.iload 4, 2) := by decide +kernel
theorem dL_does_182 : decode cL_does 182 = .ok (.bipush 7, 2) := by decide +kernel
theorem dL_does_184 : decode cL_does 184 = .ok (.irem, 1) := by decide +kernel
theorem dL_does_185 : decode cL_does 185 = .ok (.invokestatic 170, 3) := by decide +kernel
theorem dL_does_188 : decode cL_does 188 = .ok (.istore 6, 2) := by decide +kernel
theorem dL_does_190 : decode cL_does 190 = .ok (.aload_n 1, 1) := by decide +kernel
theorem dL_does_191 : decode cL_does 191 = .ok (.iconst 0, 1) := by decide +kernel
theorem dL_does_192 : decode cL_does 192 = .ok (.dup2, 1) := by decide +kernel
theorem dL_does_193 : decode cL_does 193 = .ok (.iaload, 1) := by decide +kernel
theorem dL_does_194 : decode cL_does 194 = .ok (.iload 6, 2) := by decide +kernel
theorem dL_does_196 : decode cL_does 196 = .ok (.invokestatic 161, 3) := by decide +kernel
theorem dL_does_199 : decode cL_does 199 = .ok (.ifCond .eq 7, 3) := by decide +kernel
theorem dL_does_202 : decode cL_does 202 = .ok (.iconst 0, 1) := by decide +kernel
theorem dL_does_203 : decode cL_does 203 = .ok (.goto 4, 3) := by decide +kernel
theorem dL_does_206 : decode cL_does 206 = .ok (.iconst 1, 1) := by decide +kernel
theorem dL_does_207 : decode cL_does 207 = .ok (.isub, 1) := by decide +kernel
theorem dL_does_208 : decode cL_does 208 = .ok (.iastore, 1) := by decide +kernel
theorem dL_does_209 : decode cL_does 209 = .ok (.iload 6, 2) := by decide +kernel
theorem dL_does_211 : decode cL_does 211 = .ok (.ireturn, 1) := by decide +kernel
theorem dL_does_212 : decode cL_does 212 = .ok (.aload_n 0, 1) := by decide +kernel
theorem dL_does_213 : decode cL_does 213 = .ok (.iload 4, 2) := by decide +kernel
theorem dL_does_215 : decode cL_does 215 = .ok (.bipush 37, 2) := by decide +kernel
theorem dL_does_217 : decode cL_does 217 = .ok (.irem, 1) := by decide +kernel
theorem dL_does_218 : decode cL_does 218 = .ok (.iload 5, 2) := by decide +kernel
theorem dL_does_220 : decode cL_does 220 = .ok (.iconst 4, 1) := by decide +kernel
theorem dL_does_221 : decode cL_does 221 = .ok (.irem, 1) := by decide +kernel
theorem dL_does_222 : decode cL_does 222 = .ok (.invokestatic 172, 3) := by decide +kernel
theorem dL_does_225 : decode cL_does 225 = .ok (.istore 6, 2) := by decide +kernel
theorem dL_does_227 : decode cL_does 227 = .ok (.iload 6, 2) := by decide +kernel
theorem dL_does_229 : decode cL_does 229 = .ok (.invokestatic 161, 3) := by decide +kernel
theorem dL_does_232 : decode cL_does 232 = .ok (.ifCond .ne 46, 3) := by decide +kernel
theorem dL_does_235 : decode cL_does 235 = .ok (.aload_n 2, 1) := by decide +kernel
theorem dL_does_236 : decode cL_does 236 = .ok (.iload 4, 2) := by decide +kernel
theorem dL_does_238 : decode cL_does 238 = .ok (.bipush 37, 2) := by decide +kernel
theorem dL_does_240 : decode cL_does 240 = .ok (.irem, 1) := by decide +kernel
theorem dL_does_241 : decode cL_does 241 = .ok (.iaload, 1) := by decide +kernel
theorem dL_does_242 : decode cL_does 242 = .ok (.iload 6, 2) := by decide +kernel
theorem dL_does_244 : decode cL_does 244 = .ok (.if_icmp .ne 7, 3) := by decide +kernel
theorem dL_does_247 : decode cL_does 247 = .ok (.iconst 1, 1) := by decide +kernel
theorem dL_does_248 : decode cL_does 248 = .ok (.goto 4, 3) := by decide +kernel
theorem dL_does_251 : decode cL_does 251 = .ok (.iconst 0, 1) := by decide +kernel
theorem dL_does_252 : decode cL_does 252 = .ok (.istore 7, 2) := by decide +kernel
theorem dL_does_254 : decode cL_does 254 = .ok (.aload_n 2, 1) := by decide +kernel
theorem dL_does_255 : decode cL_does 255 = .ok (.iload 4, 2) := by decide +kernel
theorem dL_does_257 : decode cL_does 257 = .ok (.bipush 37, 2) := by decide +kernel
theorem dL_does_259 : decode cL_does 259 = .ok (.irem, 1) := by decide +kernel
theorem dL_does_260 : decode cL_does 260 = .ok (.iload 5, 2) := by decide +kernel
theorem dL_does_262 : decode cL_does 262 = .ok (.iconst 4, 1) := by decide +kernel
theorem dL_does_263 : decode cL_does 263 = .ok (.irem, 1) := by decide +kernel
theorem dL_does_264 : decode cL_does 264 = .ok (.iastore, 1) := by decide +kernel
theorem dL_does_265 : decode cL_does 265 = .ok (.iload 7, 2) := by decide +kernel
theorem dL_does_267 : decode cL_does 267 = .ok (.ifCond .eq 8, 3) := by decide +kernel
theorem dL_does_270 : decode cL_does 270 = .ok (.iload 6, 2) := by decide +kernel
theorem dL_does_272 : decode cL_does 272 = .ok (.goto 5, 3) := by decide +kernel
theorem dL_does_275 : decode cL_does 275 = .ok (.bipush (-9), 2) := by decide +kernel
theorem dL_does_277 : decode cL_does 277 = .ok (.ireturn, 1) := by decide +kernel
theorem dL_does_278 : decode cL_does 278 = .ok (.iload 6, 2) := by decide +kernel
theorem dL_does_280 : decode cL_does 280 = .ok (.ireturn, 1) := by decide +kernel
theorem dL_does_281 : decode cL_does 281 = .ok (.aload_n 0, 1) := by decide +kernel
theorem dL_does_282 : decode cL_does 282 = .ok (.iload 4, 2) := by decide +kernel
theorem dL_does_284 : decode cL_does 284 = .ok (.bipush 37, 2) := by decide +kernel
theorem dL_does_286 : decode cL_does 286 = .ok (.irem, 1) := by decide +kernel
theorem dL_does_287 : decode cL_does 287 = .ok (.iload 5, 2) := by decide +kernel
theorem dL_does_289 : decode cL_does 289 = .ok (.iconst 2, 1) := by decide +kernel
theorem dL_does_290 : decode cL_does 290 = .ok (.irem, 1) := by decide +kernel
theorem dL_does_291 : decode cL_does 291 = .ok (.ifCond .ne 13, 3) := by decide +kernel
theorem dL_does_294 : decode cL_does 294 = .ok (.iload 5, 2) := by decide +kernel
theorem dL_does_296 : decode cL_does 296 = .ok (.iconst 2, 1) := by decide +kernel
theorem dL_does_297 : decode cL_does 297 = .ok (.idiv, 1) := by decide +kernel
theorem dL_does_298 : decode cL_does 298 = .ok (.bipush 9, 2) := by decide +kernel
theorem dL_does_300 : decode cL_does 300 = .ok (.irem, 1) := by decide +kernel
theorem dL_does_301 : decode cL_does 301 = .ok (.goto 9, 3) := by decide +kernel
theorem dL_does_304 : decode cL_does 304 = .ok (.iload 5, 2) := by decide +kernel
theorem dL_does_306 : decode cL_does 306 = .ok (.iconst 2, 1) := by decide +kernel
theorem dL_does_307 : decode cL_does 307 = .ok (.idiv, 1) := by decide +kernel
theorem dL_does_308 : decode cL_does 308 = .ok (.iconst 3, 1) := by decide +kernel
theorem dL_does_309 : decode cL_does 309 = .ok (.irem, 1) := by decide +kernel
theorem dL_does_310 : decode cL_does 310 = .ok (.invokestatic 174, 3) := by decide +kernel
theorem dL_does_313 : decode cL_does 313 = .ok (.ireturn, 1) := by decide +kernel
theorem dL_does_314 : decode cL_does 314 = .ok (.aload_n 0, 1) := by decide +kernel
theorem dL_does_315 : decode cL_does 315 = .ok (.iload 4, 2) := by decide +kernel
theorem dL_does_317 : decode cL_does 317 = .ok (.bipush 9, 2) := by decide +kernel
theorem dL_does_319 : decode cL_does 319 = .ok (.irem, 1) := by decide +kernel
theorem dL_does_320 : decode cL_does 320 = .ok (.iload 5, 2) := by decide +kernel
theorem dL_does_322 : decode cL_does 322 = .ok (.iconst 3, 1) := by decide +kernel
theorem dL_does_323 : decode cL_does 323 = .ok (.irem, 1) := by decide +kernel
theorem dL_does_324 : decode cL_does 324 = .ok (.ifCond .ne 7, 3) := by decide +kernel
theorem dL_does_327 : decode cL_does 327 = .ok (.iconst 1, 1) := by decide +kernel
theorem dL_does_328 : decode cL_does 328 = .ok (.goto 4, 3) := by decide +kernel
theorem dL_does_331 : decode cL_does 331 = .ok (.iconst 0, 1) := by decide +kernel
theorem dL_does_332 : decode cL_does 332 = .ok (.invokestatic 176, 3) := by decide +kernel
theorem dL_does_335 : decode cL_does 335 = .ok (.ireturn, 1) := by decide +kernel
theorem dL_does_336 : decode cL_does 336 = .ok (.aload_n 0, 1) := by decide +kernel
theorem dL_does_337 : decode cL_does 337 = .ok (.ldc2_w 146, 3) := by decide +kernel
theorem dL_does_340 : decode cL_does 340 = .ok (.iload 4, 2) := by decide +kernel
theorem dL_does_342 : decode cL_does 342 = .ok (.i2l, 1) := by decide +kernel
theorem dL_does_343 : decode cL_does 343 = .ok (.lsub, 1) := by decide +kernel
theorem dL_does_344 : decode cL_does 344 = .ok (.invokestatic 143, 3) := by decide +kernel
theorem dL_does_347 : decode cL_does 347 = .ok (.invokestatic 161, 3) := by decide +kernel
theorem dL_does_350 : decode cL_does 350 = .ok (.ifCond .eq 24, 3) := by decide +kernel
theorem dL_does_353 : decode cL_does 353 = .ok (.aload_n 0, 1) := by decide +kernel
theorem dL_does_354 : decode cL_does 354 = .ok (.ldc2_w 179, 3) := by decide +kernel
theorem dL_does_357 : decode cL_does 357 = .ok (.iload 4, 2) := by decide +kernel
theorem dL_does_359 : decode cL_does 359 = .ok (.i2l, 1) := by decide +kernel
theorem dL_does_360 : decode cL_does 360 = .ok (.ladd, 1) := by decide +kernel
theorem dL_does_361 : decode cL_does 361 = .ok (.invokestatic 143, 3) := by decide +kernel
theorem dL_does_364 : decode cL_does 364 = .ok (.invokestatic 161, 3) := by decide +kernel
theorem dL_does_367 : decode cL_does 367 = .ok (.ifCond .eq 7, 3) := by decide +kernel
theorem dL_does_370 : decode cL_does 370 = .ok (.iconst 0, 1) := by decide +kernel
theorem dL_does_371 : decode cL_does 371 = .ok (.goto 5, 3) := by decide +kernel
theorem dL_does_374 : decode cL_does 374 = .ok (.bipush (-9), 2) := by decide +kernel
theorem dL_does_376 : decode cL_does 376 = .ok (.ireturn, 1) := by decide +kernel
theorem dL_does_377 : decode cL_does 377 = .ok (.aload_n 0, 1) := by decide +kernel
theorem dL_does_378 : decode cL_does 378 = .ok (.iload 5, 2) := by decide +kernel
theorem dL_does_380 : decode cL_does 380 = .ok (.iconst 4, 1) := by decide +kernel
theorem dL_does_381 : decode cL_does 381 = .ok (.irem, 1) := by decide +kernel
theorem dL_does_382 : decode cL_does 382 = .ok (.invokestatic 181, 3) := by decide +kernel
theorem dL_does_385 : decode cL_does 385 = .ok (.ireturn, 1) := by decide +kernel
theorem dL_law_0 : decode cL_law 0 = .ok (.iconst 1, 1) := by decide +kernel
theorem dL_law_1 : decode cL_law 1 = .ok (.istore_n 1, 1) := by decide +kernel
theorem dL_law_2 : decode cL_law 2 = .ok (.iconst 0, 1) := by decide +kernel
theorem dL_law_3 : decode cL_law 3 = .ok (.istore_n 2, 1) := by decide +kernel
theorem dL_law_4 : decode cL_law 4 = .ok (.iload_n 2, 1) := by decide +kernel
theorem dL_law_5 : decode cL_law 5 = .ok (.iconst 2, 1) := by decide +kernel
theorem dL_law_6 : decode cL_law 6 = .ok (.if_icmp .ge 256, 3) := by decide +kernel
theorem dL_law_9 : decode cL_law 9 = .ok (.iload_n 1, 1) := by decide +kernel
theorem dL_law_10 : decode cL_law 10 = .ok (.ifCond .eq 252, 3) := by decide +kernel
theorem dL_law_13 : decode cL_law 13 = .ok (.new 8, 3) := by decide +kernel
theorem dL_law_16 : decode cL_law 16 = .ok (.dup, 1) := by decide +kernel
theorem dL_law_17 : decode cL_law 17 = .ok (.invokespecial 184, 3) := by decide +kernel
theorem dL_law_20 : decode cL_law 20 = .ok (.astore_n 3, 1) := by decide +kernel
theorem dL_law_21 : decode cL_law 21 = .ok (.iconst 1, 1) := by decide +kernel
theorem dL_law_22 : decode cL_law 22 = .ok (.newarray .int, 2) := by decide +kernel
theorem dL_law_24 : decode cL_law 24 = .ok (.astore 4, 2) := by decide +kernel
theorem dL_law_26 : decode cL_law 26 = .ok (.bipush 37, 2) := by decide +kernel
theorem dL_law_28 : decode cL_law 28 = .ok (.newarray .int, 2) := by decide +kernel
theorem dL_law_30 : decode cL_law 30 = .ok (.astore 5, 2) := by decide +kernel
theorem dL_law_32 : decode cL_law 32 = .ok (.iconst 0, 1) := by decide +kernel
theorem dL_law_33 : decode cL_law 33 = .ok (.istore 6, 2) := by decide +kernel
theorem dL_law_35 : decode cL_law 35 = .ok (.iload 6, 2) := by decide +kernel
theorem dL_law_37 : decode cL_law 37 = .ok (.bipush 40, 2) := by decide +kernel
theorem dL_law_39 : decode cL_law 39 = .ok (.if_icmp .ge 217, 3) := by decide +kernel
theorem dL_law_42 : decode cL_law 42 = .ok (.iload_n 1, 1) := by decide +kernel
theorem dL_law_43 : decode cL_law 43 = .ok (.ifCond .eq 213, 3) := by decide +kernel
theorem dL_law_46 : decode cL_law 46 = .ok (.aload_n 0, 1) := by decide +kernel
theorem dL_law_47 : decode cL_law 47 = .ok (.bipush 40, 2) := by decide +kernel
theorem dL_law_49 : decode cL_law 49 = .ok (.iload_n 2, 1) := by decide +kernel
theorem dL_law_50 : decode cL_law 50 = .ok (.imul, 1) := by decide +kernel
theorem dL_law_51 : decode cL_law 51 = .ok (.iload 6, 2) := by decide +kernel
theorem dL_law_53 : decode cL_law 53 = .ok (.iadd, 1) := by decide +kernel
theorem dL_law_54 : decode cL_law 54 = .ok (.invokestatic 185, 3) := by decide +kernel
theorem dL_law_57 : decode cL_law 57 = .ok (.ldc 189, 2) := by decide +kernel
theorem dL_law_59 : decode cL_law 59 = .ok (.irem, 1) := by decide +kernel
theorem dL_law_60 : decode cL_law 60 = .ok (.istore 7, 2) := by decide +kernel
theorem dL_law_62 : decode cL_law 62 = .ok (.iload 6, 2) := by decide +kernel
theorem dL_law_64 : decode cL_law 64 = .ok (.bipush 8, 2) := by decide +kernel
theorem dL_law_66 : decode cL_law 66 = .ok (.if_icmp .ge 17, 3) := by decide +kernel
theorem dL_law_69 : decode cL_law 69 = .ok (.bipush 20, 2) := by decide +kernel
theorem dL_law_71 : decode cL_law 71 = .ok (.iload 7, 2) := by decide +kernel
theorem dL_law_73 : decode cL_law 73 = .ok (.bipush 20, 2) := by decide +kernel
theorem dL_law_75 : decode cL_law 75 = .ok (.idiv, 1) := by decide +kernel
theorem dL_law_76 : decode cL_law 76 = .ok (.imul, 1) := by decide +kernel
theorem dL_law_77 : decode cL_law 77 = .ok (.bipush 11, 2) := by decide +kernel
theorem dL_law_79 : decode cL_law 79 = .ok (.iadd, 1) := by decide +kernel
theorem dL_law_80 : decode cL_law 80 = .ok (.goto 46, 3) := by decide +kernel
theorem dL_law_83 : decode cL_law 83 = .ok (.iload 6, 2) := by decide +kernel
theorem dL_law_85 : decode cL_law 85 = .ok (.bipush 11, 2) := by decide +kernel
theorem dL_law_87 : decode cL_law 87 = .ok (.if_icmp .ge 16, 3) := by decide +kernel
theorem dL_law_90 : decode cL_law 90 = .ok (.bipush 20, 2) := by decide +kernel
theorem dL_law_92 : decode cL_law 92 = .ok (.iload 7, 2) := by decide +kernel
theorem dL_law_94 : decode cL_law 94 = .ok (.bipush 20, 2) := by decide +kernel
theorem dL_law_96 : decode cL_law 96 = .ok (.idiv, 1) := by decide +kernel
theorem dL_law_97 : decode cL_law 97 = .ok (.imul, 1) := by decide +kernel
theorem dL_law_98 : decode cL_law 98 = .ok (.iconst 4, 1) := by decide +kernel
theorem dL_law_99 : decode cL_law 99 = .ok (.iadd, 1) := by decide +kernel
theorem dL_law_100 : decode cL_law 100 = .ok (.goto 26, 3) := by decide +kernel
theorem dL_law_103 : decode cL_law 103 = .ok (.iload 6, 2) := by decide +kernel
theorem dL_law_105 : decode cL_law 105 = .ok (.bipush 16, 2) := by decide +kernel
theorem dL_law_107 : decode cL_law 107 = .ok (.if_icmp .ge 17, 3) := by decide +kernel
theorem dL_law_110 : decode cL_law 110 = .ok (.bipush 20, 2) := by decide +kernel
theorem dL_law_112 : decode cL_law 112 = .ok (.iload 7, 2) := by decide +kernel
theorem dL_law_114 : decode cL_law 114 = .ok (.bipush 20, 2) := by decide +kernel
theorem dL_law_116 : decode cL_law 116 = .ok (.idiv, 1) := by decide +kernel
theorem dL_law_117 : decode cL_law 117 = .ok (.imul, 1) := by decide +kernel
theorem dL_law_118 : decode cL_law 118 = .ok (.bipush 8, 2) := by decide +kernel
theorem dL_law_120 : decode cL_law 120 = .ok (.iadd, 1) := by decide +kernel
theorem dL_law_121 : decode cL_law 121 = .ok (.goto 5, 3) := by decide +kernel
theorem dL_law_124 : decode cL_law 124 = .ok (.iload 7, 2) := by decide +kernel
theorem dL_law_126 : decode cL_law 126 = .ok (.istore 7, 2) := by decide +kernel
theorem dL_law_128 : decode cL_law 128 = .ok (.aload_n 3, 1) := by decide +kernel
theorem dL_law_129 : decode cL_law 129 = .ok (.aload 4, 2) := by decide +kernel
theorem dL_law_131 : decode cL_law 131 = .ok (.invokestatic 190, 3) := by decide +kernel
theorem dL_law_134 : decode cL_law 134 = .ok (.lstore 8, 2) := by decide +kernel
theorem dL_law_136 : decode cL_law 136 = .ok (.aload_n 3, 1) := by decide +kernel
theorem dL_law_137 : decode cL_law 137 = .ok (.aload 4, 2) := by decide +kernel
theorem dL_law_139 : decode cL_law 139 = .ok (.aload 5, 2) := by decide +kernel
theorem dL_law_141 : decode cL_law 141 = .ok (.iload 7, 2) := by decide +kernel
theorem dL_law_143 : decode cL_law 143 = .ok (.invokestatic 194, 3) := by decide +kernel
theorem dL_law_146 : decode cL_law 146 = .ok (.istore 10, 2) := by decide +kernel
theorem dL_law_148 : decode cL_law 148 = .ok (.iload 10, 2) := by decide +kernel
theorem dL_law_150 : decode cL_law 150 = .ok (.bipush (-9), 2) := by decide +kernel
theorem dL_law_152 : decode cL_law 152 = .ok (.if_icmp .eq 27, 3) := by decide +kernel
theorem dL_law_155 : decode cL_law 155 = .ok (.iload 10, 2) := by decide +kernel
theorem dL_law_157 : decode cL_law 157 = .ok (.invokestatic 161, 3) := by decide +kernel
theorem dL_law_160 : decode cL_law 160 = .ok (.ifCond .eq 15, 3) := by decide +kernel
theorem dL_law_163 : decode cL_law 163 = .ok (.aload_n 3, 1) := by decide +kernel
theorem dL_law_164 : decode cL_law 164 = .ok (.aload 4, 2) := by decide +kernel
theorem dL_law_166 : decode cL_law 166 = .ok (.invokestatic 190, 3) := by decide +kernel
theorem dL_law_169 : decode cL_law 169 = .ok (.lload 8, 2) := by decide +kernel
theorem dL_law_171 : decode cL_law 171 = .ok (.lcmp, 1) := by decide +kernel
theorem dL_law_172 : decode cL_law 172 = .ok (.ifCond .ne 7, 3) := by decide +kernel
theorem dL_law_175 : decode cL_law 175 = .ok (.iconst 1, 1) := by decide +kernel
theorem dL_law_176 : decode cL_law 176 = .ok (.goto 4, 3) := by decide +kernel
theorem dL_law_179 : decode cL_law 179 = .ok (.iconst 0, 1) := by decide +kernel
theorem dL_law_180 : decode cL_law 180 = .ok (.istore_n 1, 1) := by decide +kernel
theorem dL_law_181 : decode cL_law 181 = .ok (.iload_n 1, 1) := by decide +kernel
theorem dL_law_182 : decode cL_law 182 = .ok (.ifCond .eq 66, 3) := by decide +kernel
theorem dL_law_185 : decode cL_law 185 = .ok (.iload 6, 2) := by decide +kernel
theorem dL_law_187 : decode cL_law 187 = .ok (.iconst 3, 1) := by decide +kernel
theorem dL_law_188 : decode cL_law 188 = .ok (.irem, 1) := by decide +kernel
theorem dL_law_189 : decode cL_law 189 = .ok (.ifCond .ne 23, 3) := by decide +kernel
theorem dL_law_192 : decode cL_law 192 = .ok (.aload_n 3, 1) := by decide +kernel
theorem dL_law_193 : decode cL_law 193 = .ok (.aload 4, 2) := by decide +kernel
theorem dL_law_195 : decode cL_law 195 = .ok (.iload 7, 2) := by decide +kernel
theorem dL_law_197 : decode cL_law 197 = .ok (.bipush 20, 2) := by decide +kernel
theorem dL_law_199 : decode cL_law 199 = .ok (.idiv, 1) := by decide +kernel
theorem dL_law_200 : decode cL_law 200 = .ok (.ldc 198, 2) := by decide +kernel
theorem dL_law_202 : decode cL_law 202 = .ok (.irem, 1) := by decide +kernel
theorem dL_law_203 : decode cL_law 203 = .ok (.invokestatic 199, 3) := by decide +kernel
theorem dL_law_206 : decode cL_law 206 = .ok (.ifCond .eq 42, 3) := by decide +kernel
theorem dL_law_209 : decode cL_law 209 = .ok (.goto 35, 3) := by decide +kernel
theorem dL_law_212 : decode cL_law 212 = .ok (.iload 6, 2) := by decide +kernel
theorem dL_law_214 : decode cL_law 214 = .ok (.iconst 3, 1) := by decide +kernel
theorem dL_law_215 : decode cL_law 215 = .ok (.irem, 1) := by decide +kernel
theorem dL_law_216 : decode cL_law 216 = .ok (.iconst 1, 1) := by decide +kernel
theorem dL_law_217 : decode cL_law 217 = .ok (.if_icmp .ne 20, 3) := by decide +kernel
theorem dL_law_220 : decode cL_law 220 = .ok (.aload_n 3, 1) := by decide +kernel
theorem dL_law_221 : decode cL_law 221 = .ok (.aload 5, 2) := by decide +kernel
theorem dL_law_223 : decode cL_law 223 = .ok (.iload 7, 2) := by decide +kernel
theorem dL_law_225 : decode cL_law 225 = .ok (.bipush 20, 2) := by decide +kernel
theorem dL_law_227 : decode cL_law 227 = .ok (.idiv, 1) := by decide +kernel
theorem dL_law_228 : decode cL_law 228 = .ok (.invokestatic 203, 3) := by decide +kernel
theorem dL_law_231 : decode cL_law 231 = .ok (.ifCond .eq 17, 3) := by decide +kernel
theorem dL_law_234 : decode cL_law 234 = .ok (.goto 10, 3) := by decide +kernel
theorem dL_law_237 : decode cL_law 237 = .ok (.aload_n 3, 1) := by decide +kernel
theorem dL_law_238 : decode cL_law 238 = .ok (.invokestatic 206, 3) := by decide +kernel
theorem dL_law_241 : decode cL_law 241 = .ok (.ifCond .eq 7, 3) := by decide +kernel
theorem dL_law_244 : decode cL_law 244 = .ok (.iconst 1, 1) := by decide +kernel
theorem dL_law_245 : decode cL_law 245 = .ok (.goto 4, 3) := by decide +kernel
theorem dL_law_248 : decode cL_law 248 = .ok (.iconst 0, 1) := by decide +kernel
theorem dL_law_249 : decode cL_law 249 = .ok (.istore_n 1, 1) := by decide +kernel
theorem dL_law_250 : decode cL_law 250 = .ok (.iinc 6 1, 3) := by decide +kernel
theorem dL_law_253 : decode cL_law 253 = .ok (.goto (-218), 3) := by decide +kernel
theorem dL_law_256 : decode cL_law 256 = .ok (.iinc 2 1, 3) := by decide +kernel
theorem dL_law_259 : decode cL_law 259 = .ok (.goto (-255), 3) := by decide +kernel
theorem dL_law_262 : decode cL_law 262 = .ok (.iload_n 1, 1) := by decide +kernel
theorem dL_law_263 : decode cL_law 263 = .ok (.ireturn, 1) := by decide +kernel
