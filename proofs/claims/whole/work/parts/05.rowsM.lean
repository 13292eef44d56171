theorem dX6_init_0 : decode cX6_init 0 = .ok (.aload_n 0, 1) := by decide +kernel
theorem dX6_init_1 : decode cX6_init 1 = .ok (.invokespecial 1, 3) := by decide +kernel
theorem dX6_init_4 : decode cX6_init 4 = .ok (.aload_n 0, 1) := by decide +kernel
theorem dX6_init_5 : decode cX6_init 5 = .ok (.iconst 2, 1) := by decide +kernel
theorem dX6_init_6 : decode cX6_init 6 = .ok (.newarray .int, 2) := by decide +kernel
theorem dX6_init_8 : decode cX6_init 8 = .ok (.putfield 7, 3) := by decide +kernel
theorem dX6_init_11 : decode cX6_init 11 = .ok (.aload_n 0, 1) := by decide +kernel
theorem dX6_init_12 : decode cX6_init 12 = .ok (.bipush 60, 2) := by decide +kernel
theorem dX6_init_14 : decode cX6_init 14 = .ok (.newarray .int, 2) := by decide +kernel
theorem dX6_init_16 : decode cX6_init 16 = .ok (.putfield 13, 3) := by decide +kernel
theorem dX6_init_19 : decode cX6_init 19 = .ok (.aload_n 0, 1) := by decide +kernel
theorem dX6_init_20 : decode cX6_init 20 = .ok (.bipush 6, 2) := by decide +kernel
theorem dX6_init_22 : decode cX6_init 22 = .ok (.newarray .int, 2) := by decide +kernel
theorem dX6_init_24 : decode cX6_init 24 = .ok (.putfield 16, 3) := by decide +kernel
theorem dX6_init_27 : decode cX6_init 27 = .ok (.aload_n 0, 1) := by decide +kernel
theorem dX6_init_28 : decode cX6_init 28 = .ok (.bipush 36, 2) := by decide +kernel
theorem dX6_init_30 : decode cX6_init 30 = .ok (.newarray .int, 2) := by decide +kernel
theorem dX6_init_32 : decode cX6_init 32 = .ok (.putfield 19, 3) := by decide +kernel
theorem dX6_init_35 : decode cX6_init 35 = .ok (.aload_n 0, 1) := by decide +kernel
theorem dX6_init_36 : decode cX6_init 36 = .ok (.bipush 36, 2) := by decide +kernel
theorem dX6_init_38 : decode cX6_init 38 = .ok (.newarray .int, 2) := by decide +kernel
theorem dX6_init_40 : decode cX6_init 40 = .ok (.putfield 22, 3) := by decide +kernel
theorem dX6_init_43 : decode cX6_init 43 = .ok (.aload_n 0, 1) := by decide +kernel
theorem dX6_init_44 : decode cX6_init 44 = .ok (.bipush 8, 2) := by decide +kernel
theorem dX6_init_46 : decode cX6_init 46 = .ok (.newarray .boolean, 2) := by decide +kernel
theorem dX6_init_48 : decode cX6_init 48 = .ok (.putfield 25, 3) := by decide +kernel
theorem dX6_init_51 : decode cX6_init 51 = .ok (.aload_n 0, 1) := by decide +kernel
theorem dX6_init_52 : decode cX6_init 52 = .ok (.bipush 36, 2) := by decide +kernel
theorem dX6_init_54 : decode cX6_init 54 = .ok (.newarray .int, 2) := by decide +kernel
theorem dX6_init_56 : decode cX6_init 56 = .ok (.putfield 29, 3) := by decide +kernel
theorem dX6_init_59 : decode cX6_init 59 = .ok (.aload_n 0, 1) := by decide +kernel
theorem dX6_init_60 : decode cX6_init 60 = .ok (.bipush 7, 2) := by decide +kernel
theorem dX6_init_62 : decode cX6_init 62 = .ok (.newarray .int, 2) := by decide +kernel
theorem dX6_init_64 : decode cX6_init 64 = .ok (.putfield 32, 3) := by decide +kernel
theorem dX6_init_67 : decode cX6_init 67 = .ok (.aload_n 0, 1) := by decide +kernel
theorem dX6_init_68 : decode cX6_init 68 = .ok (.sipush 4608, 3) := by decide +kernel
theorem dX6_init_71 : decode cX6_init 71 = .ok (.newarray .int, 2) := by decide +kernel
theorem dX6_init_73 : decode cX6_init 73 = .ok (.putfield 35, 3) := by decide +kernel
theorem dX6_init_76 : decode cX6_init 76 = .ok (.aload_n 0, 1) := by decide +kernel
theorem dX6_init_77 : decode cX6_init 77 = .ok (.bipush 60, 2) := by decide +kernel
theorem dX6_init_79 : decode cX6_init 79 = .ok (.newarray .int, 2) := by decide +kernel
theorem dX6_init_81 : decode cX6_init 81 = .ok (.putfield 38, 3) := by decide +kernel
theorem dX6_init_84 : decode cX6_init 84 = .ok (.aload_n 0, 1) := by decide +kernel
theorem dX6_init_85 : decode cX6_init 85 = .ok (.bipush 36, 2) := by decide +kernel
theorem dX6_init_87 : decode cX6_init 87 = .ok (.newarray .int, 2) := by decide +kernel
theorem dX6_init_89 : decode cX6_init 89 = .ok (.putfield 41, 3) := by decide +kernel
theorem dX6_init_92 : decode cX6_init 92 = .ok (.aload_n 0, 1) := by decide +kernel
theorem dX6_init_93 : decode cX6_init 93 = .ok (.bipush 36, 2) := by decide +kernel
theorem dX6_init_95 : decode cX6_init 95 = .ok (.newarray .boolean, 2) := by decide +kernel
theorem dX6_init_97 : decode cX6_init 97 = .ok (.putfield 44, 3) := by decide +kernel
theorem dX6_init_100 : decode cX6_init 100 = .ok (.aload_n 0, 1) := by decide +kernel
theorem dX6_init_101 : decode cX6_init 101 = .ok (.bipush 36, 2) := by decide +kernel
theorem dX6_init_103 : decode cX6_init 103 = .ok (.newarray .int, 2) := by decide +kernel
theorem dX6_init_105 : decode cX6_init 105 = .ok (.putfield 47, 3) := by decide +kernel
theorem dX6_init_108 : decode cX6_init 108 = .ok (.aload_n 0, 1) := by decide +kernel
theorem dX6_init_109 : decode cX6_init 109 = .ok (.bipush 36, 2) := by decide +kernel
theorem dX6_init_111 : decode cX6_init 111 = .ok (.newarray .int, 2) := by decide +kernel
theorem dX6_init_113 : decode cX6_init 113 = .ok (.putfield 50, 3) := by decide +kernel
theorem dX6_init_116 : decode cX6_init 116 = .ok (.aload_n 0, 1) := by decide +kernel
theorem dX6_init_117 : decode cX6_init 117 = .ok (.iconst (-1), 1) := by decide +kernel
theorem dX6_init_118 : decode cX6_init 118 = .ok (.putfield 53, 3) := by decide +kernel
theorem dX6_init_121 : decode cX6_init 121 = .ok (.aload_n 0, 1) := by decide +kernel
theorem dX6_init_122 : decode cX6_init 122 = .ok (.getfield 7, 3) := by decide +kernel
theorem dX6_init_125 : decode cX6_init 125 = .ok (.iconst 0, 1) := by decide +kernel
theorem dX6_init_126 : decode cX6_init 126 = .ok (.iconst 1, 1) := by decide +kernel
theorem dX6_init_127 : decode cX6_init 127 = .ok (.iastore, 1) := by decide +kernel
theorem dX6_init_128 : decode cX6_init 128 = .ok (.aload_n 0, 1) := by decide +kernel
theorem dX6_init_129 : decode cX6_init 129 = .ok (.getfield 7, 3) := by decide +kernel
theorem dX6_init_132 : decode cX6_init 132 = .ok (.iconst 1, 1) := by decide +kernel
theorem dX6_init_133 : decode cX6_init 133 = .ok (.iconst 1, 1) := by decide +kernel
theorem dX6_init_134 : decode cX6_init 134 = .ok (.iastore, 1) := by decide +kernel
theorem dX6_init_135 : decode cX6_init 135 = .ok (.return_, 1) := by decide +kernel
theorem dX6_thrown_0 : decode cX6_thrown 0 = .ok (.aload_n 0, 1) := by decide +kernel
theorem dX6_thrown_1 : decode cX6_thrown 1 = .ok (.getfield 57, 3) := by decide +kernel
theorem dX6_thrown_4 : decode cX6_thrown 4 = .ok (.ireturn, 1) := by decide +kernel
theorem dX6_in_0 : decode cX6_in 0 = .ok (.iload_n 0, 1) := by decide +kernel
theorem dX6_in_1 : decode cX6_in 1 = .ok (.iload_n 1, 1) := by decide +kernel
theorem dX6_in_2 : decode cX6_in 2 = .ok (.if_icmp .lt 12, 3) := by decide +kernel
theorem dX6_in_5 : decode cX6_in 5 = .ok (.iload_n 0, 1) := by decide +kernel
theorem dX6_in_6 : decode cX6_in 6 = .ok (.iload_n 2, 1) := by decide +kernel
theorem dX6_in_7 : decode cX6_in 7 = .ok (.if_icmp .gt 7, 3) := by decide +kernel
theorem dX6_in_10 : decode cX6_in 10 = .ok (.iconst 1, 1) := by decide +kernel
theorem dX6_in_11 : decode cX6_in 11 = .ok (.goto 4, 3) := by decide +kernel
theorem dX6_in_14 : decode cX6_in 14 = .ok (.iconst 0, 1) := by decide +kernel
theorem dX6_in_15 : decode cX6_in 15 = .ok (.ireturn, 1) := by decide +kernel
theorem dX6_refused_0 : decode cX6_refused 0 = .ok (.aload_n 0, 1) := by decide +kernel
theorem dX6_refused_1 : decode cX6_refused 1 = .ok (.iload_n 1, 1) := by decide +kernel
theorem dX6_refused_2 : decode cX6_refused 2 = .ok (.putfield 57, 3) := by decide +kernel
theorem dX6_refused_5 : decode cX6_refused 5 = .ok (.iload_n 1, 1) := by decide +kernel
theorem dX6_refused_6 : decode cX6_refused 6 = .ok (.ifCond .eq 7, 3) := by decide +kernel
theorem dX6_refused_9 : decode cX6_refused 9 = .ok (.iconst 1, 1) := by decide +kernel
theorem dX6_refused_10 : decode cX6_refused 10 = .ok (.goto 4, 3) := by decide +kernel
theorem dX6_refused_13 : decode cX6_refused 13 = .ok (.iconst 0, 1) := by decide +kernel
theorem dX6_refused_14 : decode cX6_refused 14 = .ok (.ireturn, 1) := by decide +kernel
set_option maxRecDepth 20000 in
theorem ggX6_isNode_X6_in : GoodIn wsX6_isNode wsX6_in := goodIn_r _ [4] (by decide +kernel) (by decide +kernel)
set_option maxRecDepth 20000 in
theorem gX6_isNode_X6_in : GoodIn wsX6_isNode (va_wsS RX6 60 yX6_in wsX6_in) := goodIn_app (goodIn_of _ (by decide +kernel)) ggX6_isNode_X6_in
theorem dX6_isNode_0 : decode cX6_isNode 0 = .ok (.iload_n 0, 1) := by decide +kernel
theorem dX6_isNode_1 : decode cX6_isNode 1 = .ok (.iconst 0, 1) := by decide +kernel
theorem dX6_isNode_2 : decode cX6_isNode 2 = .ok (.bipush 35, 2) := by decide +kernel
theorem dX6_isNode_4 : decode cX6_isNode 4 = .ok (.invokestatic 60, 3) := by decide +kernel
theorem dX6_isNode_7 : decode cX6_isNode 7 = .ok (.ireturn, 1) := by decide +kernel
set_option maxRecDepth 20000 in
theorem ggX6_isEdge_X6_in : GoodIn wsX6_isEdge wsX6_in := goodIn_r _ [4] (by decide +kernel) (by decide +kernel)
set_option maxRecDepth 20000 in
theorem gX6_isEdge_X6_in : GoodIn wsX6_isEdge (va_wsS RX6 60 yX6_in wsX6_in) := goodIn_app (goodIn_of _ (by decide +kernel)) ggX6_isEdge_X6_in
theorem dX6_isEdge_0 : decode cX6_isEdge 0 = .ok (.iload_n 0, 1) := by decide +kernel
theorem dX6_isEdge_1 : decode cX6_isEdge 1 = .ok (.iconst 0, 1) := by decide +kernel
theorem dX6_isEdge_2 : decode cX6_isEdge 2 = .ok (.bipush 59, 2) := by decide +kernel
theorem dX6_isEdge_4 : decode cX6_isEdge 4 = .ok (.invokestatic 60, 3) := by decide +kernel
theorem dX6_isEdge_7 : decode cX6_isEdge 7 = .ok (.ireturn, 1) := by decide +kernel
set_option maxRecDepth 20000 in
theorem ggX6_isBubble_X6_in : GoodIn wsX6_isBubble wsX6_in := goodIn_r _ [4] (by decide +kernel) (by decide +kernel)
set_option maxRecDepth 20000 in
theorem gX6_isBubble_X6_in : GoodIn wsX6_isBubble (va_wsS RX6 60 yX6_in wsX6_in) := goodIn_app (goodIn_of _ (by decide +kernel)) ggX6_isBubble_X6_in
theorem dX6_isBubble_0 : decode cX6_isBubble 0 = .ok (.iload_n 0, 1) := by decide +kernel
theorem dX6_isBubble_1 : decode cX6_isBubble 1 = .ok (.iconst 0, 1) := by decide +kernel
theorem dX6_isBubble_2 : decode cX6_isBubble 2 = .ok (.bipush 7, 2) := by decide +kernel
theorem dX6_isBubble_4 : decode cX6_isBubble 4 = .ok (.invokestatic 60, 3) := by decide +kernel
theorem dX6_isBubble_7 : decode cX6_isBubble 7 = .ok (.ireturn, 1) := by decide +kernel
theorem dX6_first_0 : decode cX6_first 0 = .ok (.iload_n 0, 1) := by decide +kernel
theorem dX6_first_1 : decode cX6_first 1 = .ok (.bipush 30, 2) := by decide +kernel
theorem dX6_first_3 : decode cX6_first 3 = .ok (.if_icmp .ge 16, 3) := by decide +kernel
theorem dX6_first_6 : decode cX6_first 6 = .ok (.bipush 6, 2) := by decide +kernel
theorem dX6_first_8 : decode cX6_first 8 = .ok (.iload_n 0, 1) := by decide +kernel
theorem dX6_first_9 : decode cX6_first 9 = .ok (.iconst 5, 1) := by decide +kernel
theorem dX6_first_10 : decode cX6_first 10 = .ok (.idiv, 1) := by decide +kernel
theorem dX6_first_11 : decode cX6_first 11 = .ok (.imul, 1) := by decide +kernel
theorem dX6_first_12 : decode cX6_first 12 = .ok (.iload_n 0, 1) := by decide +kernel
theorem dX6_first_13 : decode cX6_first 13 = .ok (.iconst 5, 1) := by decide +kernel
theorem dX6_first_14 : decode cX6_first 14 = .ok (.irem, 1) := by decide +kernel
theorem dX6_first_15 : decode cX6_first 15 = .ok (.iadd, 1) := by decide +kernel
theorem dX6_first_16 : decode cX6_first 16 = .ok (.goto 7, 3) := by decide +kernel
theorem dX6_first_19 : decode cX6_first 19 = .ok (.iload_n 0, 1) := by decide +kernel
theorem dX6_first_20 : decode cX6_first 20 = .ok (.bipush 30, 2) := by decide +kernel
theorem dX6_first_22 : decode cX6_first 22 = .ok (.isub, 1) := by decide +kernel
theorem dX6_first_23 : decode cX6_first 23 = .ok (.ireturn, 1) := by decide +kernel
set_option maxRecDepth 20000 in
theorem ggX6_second_X6_first : GoodIn wsX6_second wsX6_first := goodIn_r _ [4] (by decide +kernel) (by decide +kernel)
set_option maxRecDepth 20000 in
theorem gX6_second_X6_first : GoodIn wsX6_second (va_wsS RX6 64 yX6_first wsX6_first) := goodIn_app (goodIn_of _ (by decide +kernel)) ggX6_second_X6_first
theorem dX6_second_0 : decode cX6_second 0 = .ok (.iload_n 0, 1) := by decide +kernel
theorem dX6_second_1 : decode cX6_second 1 = .ok (.bipush 30, 2) := by decide +kernel
theorem dX6_second_3 : decode cX6_second 3 = .ok (.if_icmp .ge 12, 3) := by decide +kernel
theorem dX6_second_6 : decode cX6_second 6 = .ok (.iload_n 0, 1) := by decide +kernel
theorem dX6_second_7 : decode cX6_second 7 = .ok (.invokestatic 64, 3) := by decide +kernel
theorem dX6_second_10 : decode cX6_second 10 = .ok (.iconst 1, 1) := by decide +kernel
theorem dX6_second_11 : decode cX6_second 11 = .ok (.iadd, 1) := by decide +kernel
theorem dX6_second_12 : decode cX6_second 12 = .ok (.goto 10, 3) := by decide +kernel
theorem dX6_second_15 : decode cX6_second 15 = .ok (.iload_n 0, 1) := by decide +kernel
theorem dX6_second_16 : decode cX6_second 16 = .ok (.invokestatic 64, 3) := by decide +kernel
theorem dX6_second_19 : decode cX6_second 19 = .ok (.bipush 6, 2) := by decide +kernel
theorem dX6_second_21 : decode cX6_second 21 = .ok (.iadd, 1) := by decide +kernel
theorem dX6_second_22 : decode cX6_second 22 = .ok (.ireturn, 1) := by decide +kernel
theorem dX6_costOfEdge_0 : decode cX6_costOfEdge 0 = .ok (.aload_n 0, 1) := by decide +kernel
theorem dX6_costOfEdge_1 : decode cX6_costOfEdge 1 = .ok (.getfield 7, 3) := by decide +kernel
theorem dX6_costOfEdge_4 : decode cX6_costOfEdge 4 = .ok (.iload_n 1, 1) := by decide +kernel
theorem dX6_costOfEdge_5 : decode cX6_costOfEdge 5 = .ok (.bipush 30, 2) := by decide +kernel
theorem dX6_costOfEdge_7 : decode cX6_costOfEdge 7 = .ok (.if_icmp .ge 7, 3) := by decide +kernel
theorem dX6_costOfEdge_10 : decode cX6_costOfEdge 10 = .ok (.iconst 0, 1) := by decide +kernel
theorem dX6_costOfEdge_11 : decode cX6_costOfEdge 11 = .ok (.goto 4, 3) := by decide +kernel
theorem dX6_costOfEdge_14 : decode cX6_costOfEdge 14 = .ok (.iconst 1, 1) := by decide +kernel
theorem dX6_costOfEdge_15 : decode cX6_costOfEdge 15 = .ok (.iaload, 1) := by decide +kernel
theorem dX6_costOfEdge_16 : decode cX6_costOfEdge 16 = .ok (.aload_n 0, 1) := by decide +kernel
theorem dX6_costOfEdge_17 : decode cX6_costOfEdge 17 = .ok (.getfield 13, 3) := by decide +kernel
theorem dX6_costOfEdge_20 : decode cX6_costOfEdge 20 = .ok (.iload_n 1, 1) := by decide +kernel
theorem dX6_costOfEdge_21 : decode cX6_costOfEdge 21 = .ok (.iaload, 1) := by decide +kernel
theorem dX6_costOfEdge_22 : decode cX6_costOfEdge 22 = .ok (.iadd, 1) := by decide +kernel
theorem dX6_costOfEdge_23 : decode cX6_costOfEdge 23 = .ok (.ireturn, 1) := by decide +kernel
set_option maxRecDepth 20000 in
theorem ggX6_cost_X6_in : GoodIn wsX6_cost wsX6_in := goodIn_r _ [6] (by decide +kernel) (by decide +kernel)
set_option maxRecDepth 20000 in
theorem gX6_cost_X6_in : GoodIn wsX6_cost (va_wsS RX6 60 yX6_in wsX6_in) := goodIn_app (goodIn_of _ (by decide +kernel)) ggX6_cost_X6_in
set_option maxRecDepth 20000 in
theorem ggX6_cost_X6_refused : GoodIn wsX6_cost wsX6_refused := goodIn_r _ [10, 11, 28, 29, 30, 31, 32, 33, 34, 35, 36, 37, 38, 39, 40, 41, 42, 43, 44, 45, 46] (by decide +kernel) (by decide +kernel)
set_option maxRecDepth 20000 in
theorem gX6_cost_X6_refused : GoodIn wsX6_cost (wsV RX6 68 RX6 yX6_refused wsX6_refused) := goodIn_app (goodIn_of _ (by decide +kernel)) ggX6_cost_X6_refused
set_option maxRecDepth 20000 in
theorem ggX6_cost_X6_energyNow : GoodIn wsX6_cost wsX6_energyNow := goodIn_r _ [15, 16, 17, 18, 5, 19, 20, 21, 22, 23, 24, 25, 26, 1, 27, 28, 29, 30, 31, 32, 33, 34, 35, 36, 37, 38, 39, 40, 41, 42, 43, 44, 45, 46] (by decide +kernel) (by decide +kernel)
set_option maxRecDepth 20000 in
theorem gX6_cost_X6_energyNow : GoodIn wsX6_cost (wsV RX6 72 RX6 yX6_energyNow wsX6_energyNow) := goodIn_app (goodIn_of _ (by decide +kernel)) ggX6_cost_X6_energyNow
theorem dX6_cost_0 : decode cX6_cost 0 = .ok (.aload_n 0, 1) := by decide +kernel
theorem dX6_cost_1 : decode cX6_cost 1 = .ok (.iload_n 1, 1) := by decide +kernel
theorem dX6_cost_2 : decode cX6_cost 2 = .ok (.iconst 0, 1) := by decide +kernel
theorem dX6_cost_3 : decode cX6_cost 3 = .ok (.iconst 1, 1) := by decide +kernel
theorem dX6_cost_4 : decode cX6_cost 4 = .ok (.invokestatic 60, 3) := by decide +kernel
theorem dX6_cost_7 : decode cX6_cost 7 = .ok (.ifCond .eq 17, 3) := by decide +kernel
theorem dX6_cost_10 : decode cX6_cost 10 = .ok (.iload_n 2, 1) := by decide +kernel
theorem dX6_cost_11 : decode cX6_cost 11 = .ok (.iconst 1, 1) := by decide +kernel
theorem dX6_cost_12 : decode cX6_cost 12 = .ok (.bipush 9, 2) := by decide +kernel
theorem dX6_cost_14 : decode cX6_cost 14 = .ok (.invokestatic 60, 3) := by decide +kernel
theorem dX6_cost_17 : decode cX6_cost 17 = .ok (.ifCond .eq 7, 3) := by decide +kernel
theorem dX6_cost_20 : decode cX6_cost 20 = .ok (.iconst 0, 1) := by decide +kernel
theorem dX6_cost_21 : decode cX6_cost 21 = .ok (.goto 4, 3) := by decide +kernel
theorem dX6_cost_24 : decode cX6_cost 24 = .ok (.iconst 1, 1) := by decide +kernel
theorem dX6_cost_25 : decode cX6_cost 25 = .ok (.invokevirtual 68, 3) := by decide +kernel
theorem dX6_cost_28 : decode cX6_cost 28 = .ok (.ifCond .eq 5, 3) := by decide +kernel
theorem dX6_cost_31 : decode cX6_cost 31 = .ok (.iconst 0, 1) := by decide +kernel
theorem dX6_cost_32 : decode cX6_cost 32 = .ok (.ireturn, 1) := by decide +kernel
theorem dX6_cost_33 : decode cX6_cost 33 = .ok (.aload_n 0, 1) := by decide +kernel
theorem dX6_cost_34 : decode cX6_cost 34 = .ok (.getfield 7, 3) := by decide +kernel
theorem dX6_cost_37 : decode cX6_cost 37 = .ok (.iload_n 1, 1) := by decide +kernel
theorem dX6_cost_38 : decode cX6_cost 38 = .ok (.iaload, 1) := by decide +kernel
theorem dX6_cost_39 : decode cX6_cost 39 = .ok (.istore_n 3, 1) := by decide +kernel
theorem dX6_cost_40 : decode cX6_cost 40 = .ok (.aload_n 0, 1) := by decide +kernel
theorem dX6_cost_41 : decode cX6_cost 41 = .ok (.invokevirtual 72, 3) := by decide +kernel
theorem dX6_cost_44 : decode cX6_cost 44 = .ok (.istore 4, 2) := by decide +kernel
theorem dX6_cost_46 : decode cX6_cost 46 = .ok (.aload_n 0, 1) := by decide +kernel
theorem dX6_cost_47 : decode cX6_cost 47 = .ok (.getfield 7, 3) := by decide +kernel
theorem dX6_cost_50 : decode cX6_cost 50 = .ok (.iload_n 1, 1) := by decide +kernel
theorem dX6_cost_51 : decode cX6_cost 51 = .ok (.iload_n 2, 1) := by decide +kernel
theorem dX6_cost_52 : decode cX6_cost 52 = .ok (.iastore, 1) := by decide +kernel
theorem dX6_cost_53 : decode cX6_cost 53 = .ok (.aload_n 0, 1) := by decide +kernel
theorem dX6_cost_54 : decode cX6_cost 54 = .ok (.dup, 1) := by decide +kernel
theorem dX6_cost_55 : decode cX6_cost 55 = .ok (.getfield 76, 3) := by decide +kernel
theorem dX6_cost_58 : decode cX6_cost 58 = .ok (.aload_n 0, 1) := by decide +kernel
theorem dX6_cost_59 : decode cX6_cost 59 = .ok (.invokevirtual 72, 3) := by decide +kernel
theorem dX6_cost_62 : decode cX6_cost 62 = .ok (.iload 4, 2) := by decide +kernel
theorem dX6_cost_64 : decode cX6_cost 64 = .ok (.isub, 1) := by decide +kernel
theorem dX6_cost_65 : decode cX6_cost 65 = .ok (.iadd, 1) := by decide +kernel
theorem dX6_cost_66 : decode cX6_cost 66 = .ok (.putfield 76, 3) := by decide +kernel
theorem dX6_cost_69 : decode cX6_cost 69 = .ok (.iload_n 3, 1) := by decide +kernel
theorem dX6_cost_70 : decode cX6_cost 70 = .ok (.ireturn, 1) := by decide +kernel
set_option maxRecDepth 20000 in
theorem ggX6_lay_X6_isEdge : GoodIn wsX6_lay wsX6_isEdge := goodIn_r _ [6, 7, 8, 5, 9] (by decide +kernel) (by decide +kernel)
set_option maxRecDepth 20000 in
theorem gX6_lay_X6_isEdge : GoodIn wsX6_lay (va_wsS RX6 79 yX6_isEdge wsX6_isEdge) := goodIn_app (goodIn_of _ (by decide +kernel)) ggX6_lay_X6_isEdge
set_option maxRecDepth 20000 in
theorem ggX6_lay_X6_in : GoodIn wsX6_lay wsX6_in := goodIn_r _ [9] (by decide +kernel) (by decide +kernel)
set_option maxRecDepth 20000 in
theorem gX6_lay_X6_in : GoodIn wsX6_lay (va_wsS RX6 60 yX6_in wsX6_in) := goodIn_app (goodIn_of _ (by decide +kernel)) ggX6_lay_X6_in
set_option maxRecDepth 20000 in
theorem ggX6_lay_X6_refused : GoodIn wsX6_lay wsX6_refused := goodIn_r _ [13, 14, 31, 32, 33, 34, 35, 36, 37, 38, 39, 40, 41, 42, 43, 44, 45, 46, 47, 48, 49] (by decide +kernel) (by decide +kernel)
set_option maxRecDepth 20000 in
theorem gX6_lay_X6_refused : GoodIn wsX6_lay (wsV RX6 68 RX6 yX6_refused wsX6_refused) := goodIn_app (goodIn_of _ (by decide +kernel)) ggX6_lay_X6_refused
set_option maxRecDepth 20000 in
theorem ggX6_lay_X6_energyNow : GoodIn wsX6_lay wsX6_energyNow := goodIn_r _ [18, 19, 20, 21, 5, 22, 23, 24, 25, 26, 27, 28, 29, 30, 1, 31, 32, 33, 34, 35, 36, 37, 38, 39, 40, 41, 42, 43, 44, 45, 46, 47, 48, 49] (by decide +kernel) (by decide +kernel)
set_option maxRecDepth 20000 in
theorem gX6_lay_X6_energyNow : GoodIn wsX6_lay (wsV RX6 72 RX6 yX6_energyNow wsX6_energyNow) := goodIn_app (goodIn_of _ (by decide +kernel)) ggX6_lay_X6_energyNow
theorem dX6_lay_0 : decode cX6_lay 0 = .ok (.aload_n 0, 1) := by decide +kernel
theorem dX6_lay_1 : decode cX6_lay 1 = .ok (.iload_n 1, 1) := by decide +kernel
theorem dX6_lay_2 : decode cX6_lay 2 = .ok (.invokestatic 79, 3) := by decide +kernel
theorem dX6_lay_5 : decode cX6_lay 5 = .ok (.ifCond .ne 7, 3) := by decide +kernel
theorem dX6_lay_8 : decode cX6_lay 8 = .ok (.iconst 1, 1) := by decide +kernel
theorem dX6_lay_9 : decode cX6_lay 9 = .ok (.goto 18, 3) := by decide +kernel
theorem dX6_lay_12 : decode cX6_lay 12 = .ok (.iload_n 2, 1) := by decide +kernel
theorem dX6_lay_13 : decode cX6_lay 13 = .ok (.iconst 0, 1) := by decide +kernel
theorem dX6_lay_14 : decode cX6_lay 14 = .ok (.bipush 50, 2) := by decide +kernel
theorem dX6_lay_16 : decode cX6_lay 16 = .ok (.invokestatic 60, 3) := by decide +kernel
theorem dX6_lay_19 : decode cX6_lay 19 = .ok (.ifCond .eq 7, 3) := by decide +kernel
theorem dX6_lay_22 : decode cX6_lay 22 = .ok (.iconst 0, 1) := by decide +kernel
theorem dX6_lay_23 : decode cX6_lay 23 = .ok (.goto 4, 3) := by decide +kernel
theorem dX6_lay_26 : decode cX6_lay 26 = .ok (.iconst 2, 1) := by decide +kernel
theorem dX6_lay_27 : decode cX6_lay 27 = .ok (.invokevirtual 68, 3) := by decide +kernel
theorem dX6_lay_30 : decode cX6_lay 30 = .ok (.ifCond .eq 5, 3) := by decide +kernel
theorem dX6_lay_33 : decode cX6_lay 33 = .ok (.iconst 0, 1) := by decide +kernel
theorem dX6_lay_34 : decode cX6_lay 34 = .ok (.ireturn, 1) := by decide +kernel
theorem dX6_lay_35 : decode cX6_lay 35 = .ok (.aload_n 0, 1) := by decide +kernel
theorem dX6_lay_36 : decode cX6_lay 36 = .ok (.getfield 13, 3) := by decide +kernel
theorem dX6_lay_39 : decode cX6_lay 39 = .ok (.iload_n 1, 1) := by decide +kernel
theorem dX6_lay_40 : decode cX6_lay 40 = .ok (.iaload, 1) := by decide +kernel
theorem dX6_lay_41 : decode cX6_lay 41 = .ok (.istore_n 3, 1) := by decide +kernel
theorem dX6_lay_42 : decode cX6_lay 42 = .ok (.aload_n 0, 1) := by decide +kernel
theorem dX6_lay_43 : decode cX6_lay 43 = .ok (.invokevirtual 72, 3) := by decide +kernel
theorem dX6_lay_46 : decode cX6_lay 46 = .ok (.istore 4, 2) := by decide +kernel
theorem dX6_lay_48 : decode cX6_lay 48 = .ok (.aload_n 0, 1) := by decide +kernel
theorem dX6_lay_49 : decode cX6_lay 49 = .ok (.getfield 13, 3) := by decide +kernel
theorem dX6_lay_52 : decode cX6_lay 52 = .ok (.iload_n 1, 1) := by decide +kernel
theorem dX6_lay_53 : decode cX6_lay 53 = .ok (.iload_n 2, 1) := by decide +kernel
theorem dX6_lay_54 : decode cX6_lay 54 = .ok (.iastore, 1) := by decide +kernel
theorem dX6_lay_55 : decode cX6_lay 55 = .ok (.aload_n 0, 1) := by decide +kernel
theorem dX6_lay_56 : decode cX6_lay 56 = .ok (.dup, 1) := by decide +kernel
theorem dX6_lay_57 : decode cX6_lay 57 = .ok (.getfield 76, 3) := by decide +kernel
theorem dX6_lay_60 : decode cX6_lay 60 = .ok (.aload_n 0, 1) := by decide +kernel
theorem dX6_lay_61 : decode cX6_lay 61 = .ok (.invokevirtual 72, 3) := by decide +kernel
theorem dX6_lay_64 : decode cX6_lay 64 = .ok (.iload 4, 2) := by decide +kernel
theorem dX6_lay_66 : decode cX6_lay 66 = .ok (.isub, 1) := by decide +kernel
theorem dX6_lay_67 : decode cX6_lay 67 = .ok (.iadd, 1) := by decide +kernel
theorem dX6_lay_68 : decode cX6_lay 68 = .ok (.putfield 76, 3) := by decide +kernel
theorem dX6_lay_71 : decode cX6_lay 71 = .ok (.iload_n 3, 1) := by decide +kernel
theorem dX6_lay_72 : decode cX6_lay 72 = .ok (.ireturn, 1) := by decide +kernel
set_option maxRecDepth 20000 in
theorem ggX6_edge_X6_isEdge : GoodIn wsX6_edge wsX6_isEdge := goodIn_r _ [4, 5, 6, 3, 7] (by decide +kernel) (by decide +kernel)
set_option maxRecDepth 20000 in
theorem gX6_edge_X6_isEdge : GoodIn wsX6_edge (va_wsS RX6 79 yX6_isEdge wsX6_isEdge) := goodIn_app (goodIn_of _ (by decide +kernel)) ggX6_edge_X6_isEdge
set_option maxRecDepth 20000 in
theorem ggX6_edge_X6_refused : GoodIn wsX6_edge wsX6_refused := goodIn_r _ [11, 12, 19, 20, 21, 22, 23, 24, 25, 26, 27, 28, 29, 30, 31, 32, 33, 34, 35, 36, 37] (by decide +kernel) (by decide +kernel)
set_option maxRecDepth 20000 in
theorem gX6_edge_X6_refused : GoodIn wsX6_edge (wsV RX6 68 RX6 yX6_refused wsX6_refused) := goodIn_app (goodIn_of _ (by decide +kernel)) ggX6_edge_X6_refused
set_option maxRecDepth 20000 in
theorem ggX6_edge_X6_costOfEdge : GoodIn wsX6_edge wsX6_costOfEdge := goodIn_r _ [16, 17, 18, 19, 20, 21, 22, 23, 24, 25, 26, 27, 28, 29, 30, 31, 32, 33, 34, 35, 36, 37] (by decide +kernel) (by decide +kernel)
set_option maxRecDepth 20000 in
theorem gX6_edge_X6_costOfEdge : GoodIn wsX6_edge (wsV RX6 82 RX6 yX6_costOfEdge wsX6_costOfEdge) := goodIn_app (goodIn_of _ (by decide +kernel)) ggX6_edge_X6_costOfEdge
theorem dX6_edge_0 : decode cX6_edge 0 = .ok (.aload_n 0, 1) := by decide +kernel
theorem dX6_edge_1 : decode cX6_edge 1 = .ok (.iload_n 1, 1) := by decide +kernel
theorem dX6_edge_2 : decode cX6_edge 2 = .ok (.invokestatic 79, 3) := by decide +kernel
theorem dX6_edge_5 : decode cX6_edge 5 = .ok (.ifCond .eq 7, 3) := by decide +kernel
theorem dX6_edge_8 : decode cX6_edge 8 = .ok (.iconst 0, 1) := by decide +kernel
theorem dX6_edge_9 : decode cX6_edge 9 = .ok (.goto 4, 3) := by decide +kernel
theorem dX6_edge_12 : decode cX6_edge 12 = .ok (.iconst 1, 1) := by decide +kernel
theorem dX6_edge_13 : decode cX6_edge 13 = .ok (.invokevirtual 68, 3) := by decide +kernel
theorem dX6_edge_16 : decode cX6_edge 16 = .ok (.ifCond .eq 7, 3) := by decide +kernel
theorem dX6_edge_19 : decode cX6_edge 19 = .ok (.iconst 0, 1) := by decide +kernel
theorem dX6_edge_20 : decode cX6_edge 20 = .ok (.goto 8, 3) := by decide +kernel
theorem dX6_edge_23 : decode cX6_edge 23 = .ok (.aload_n 0, 1) := by decide +kernel
theorem dX6_edge_24 : decode cX6_edge 24 = .ok (.iload_n 1, 1) := by decide +kernel
theorem dX6_edge_25 : decode cX6_edge 25 = .ok (.invokevirtual 82, 3) := by decide +kernel
theorem dX6_edge_28 : decode cX6_edge 28 = .ok (.ireturn, 1) := by decide +kernel
set_option maxRecDepth 20000 in
theorem ggX6_findFar_X6_first : GoodIn wsX6_findFar wsX6_first := goodIn_r _ [6] (by decide +kernel) (by decide +kernel)
set_option maxRecDepth 20000 in
theorem gX6_findFar_X6_first : GoodIn wsX6_findFar (va_wsS RX6 64 yX6_first wsX6_first) := goodIn_app (goodIn_of _ (by decide +kernel)) ggX6_findFar_X6_first
set_option maxRecDepth 20000 in
theorem ggX6_findFar_X6_second : GoodIn wsX6_findFar wsX6_second := goodIn_r _ [9, 3, 4, 5, 6] (by decide +kernel) (by decide +kernel)
set_option maxRecDepth 20000 in
theorem gX6_findFar_X6_second : GoodIn wsX6_findFar (va_wsS RX6 86 yX6_second wsX6_second) := goodIn_app (goodIn_of _ (by decide +kernel)) ggX6_findFar_X6_second
set_option maxRecDepth 20000 in
theorem ggX6_findFar_X6_costOfEdge : GoodIn wsX6_findFar wsX6_costOfEdge := goodIn_r _ [13, 14, 15, 16, 17, 18, 19, 20, 21, 22, 23, 24, 25, 26, 27, 28, 29, 30, 31, 32, 33, 34] (by decide +kernel) (by decide +kernel)
set_option maxRecDepth 20000 in
theorem gX6_findFar_X6_costOfEdge : GoodIn wsX6_findFar (wsV RX6 82 RX6 yX6_costOfEdge wsX6_costOfEdge) := goodIn_app (goodIn_of _ (by decide +kernel)) ggX6_findFar_X6_costOfEdge
theorem dX6_findFar_0 : decode cX6_findFar 0 = .ok (.iconst 0, 1) := by decide +kernel
theorem dX6_findFar_1 : decode cX6_findFar 1 = .ok (.istore_n 2, 1) := by decide +kernel
theorem dX6_findFar_2 : decode cX6_findFar 2 = .ok (.iload_n 2, 1) := by decide +kernel
theorem dX6_findFar_3 : decode cX6_findFar 3 = .ok (.bipush 36, 2) := by decide +kernel
theorem dX6_findFar_5 : decode cX6_findFar 5 = .ok (.if_icmp .ge 26, 3) := by decide +kernel
theorem dX6_findFar_8 : decode cX6_findFar 8 = .ok (.aload_n 0, 1) := by decide +kernel
theorem dX6_findFar_9 : decode cX6_findFar 9 = .ok (.getfield 29, 3) := by decide +kernel
theorem dX6_findFar_12 : decode cX6_findFar 12 = .ok (.iload_n 2, 1) := by decide +kernel
theorem dX6_findFar_13 : decode cX6_findFar 13 = .ok (.iload_n 2, 1) := by decide +kernel
theorem dX6_findFar_14 : decode cX6_findFar 14 = .ok (.iload_n 1, 1) := by decide +kernel
theorem dX6_findFar_15 : decode cX6_findFar 15 = .ok (.if_icmp .ne 7, 3) := by decide +kernel
theorem dX6_findFar_18 : decode cX6_findFar 18 = .ok (.iconst 0, 1) := by decide +kernel
theorem dX6_findFar_19 : decode cX6_findFar 19 = .ok (.goto 5, 3) := by decide +kernel
theorem dX6_findFar_22 : decode cX6_findFar 22 = .ok (.ldc 85, 2) := by decide +kernel
theorem dX6_findFar_24 : decode cX6_findFar 24 = .ok (.iastore, 1) := by decide +kernel
theorem dX6_findFar_25 : decode cX6_findFar 25 = .ok (.iinc 2 1, 3) := by decide +kernel
theorem dX6_findFar_28 : decode cX6_findFar 28 = .ok (.goto (-26), 3) := by decide +kernel
theorem dX6_findFar_31 : decode cX6_findFar 31 = .ok (.iconst 0, 1) := by decide +kernel
theorem dX6_findFar_32 : decode cX6_findFar 32 = .ok (.istore_n 2, 1) := by decide +kernel
theorem dX6_findFar_33 : decode cX6_findFar 33 = .ok (.iload_n 2, 1) := by decide +kernel
theorem dX6_findFar_34 : decode cX6_findFar 34 = .ok (.bipush 36, 2) := by decide +kernel
theorem dX6_findFar_36 : decode cX6_findFar 36 = .ok (.if_icmp .ge 141, 3) := by decide +kernel
theorem dX6_findFar_39 : decode cX6_findFar 39 = .ok (.iconst 0, 1) := by decide +kernel
theorem dX6_findFar_40 : decode cX6_findFar 40 = .ok (.istore_n 3, 1) := by decide +kernel
theorem dX6_findFar_41 : decode cX6_findFar 41 = .ok (.iload_n 3, 1) := by decide +kernel
theorem dX6_findFar_42 : decode cX6_findFar 42 = .ok (.bipush 60, 2) := by decide +kernel
theorem dX6_findFar_44 : decode cX6_findFar 44 = .ok (.if_icmp .ge 127, 3) := by decide +kernel
theorem dX6_findFar_47 : decode cX6_findFar 47 = .ok (.iload_n 3, 1) := by decide +kernel
theorem dX6_findFar_48 : decode cX6_findFar 48 = .ok (.invokestatic 64, 3) := by decide +kernel
theorem dX6_findFar_51 : decode cX6_findFar 51 = .ok (.istore 4, 2) := by decide +kernel
theorem dX6_findFar_53 : decode cX6_findFar 53 = .ok (.iload_n 3, 1) := by decide +kernel
theorem dX6_findFar_54 : decode cX6_findFar 54 = .ok (.invokestatic 86, 3) := by decide +kernel
theorem dX6_findFar_57 : decode cX6_findFar 57 = .ok (.istore 5, 2) := by decide +kernel
theorem dX6_findFar_59 : decode cX6_findFar 59 = .ok (.aload_n 0, 1) := by decide +kernel
theorem dX6_findFar_60 : decode cX6_findFar 60 = .ok (.getfield 29, 3) := by decide +kernel
theorem dX6_findFar_63 : decode cX6_findFar 63 = .ok (.iload 5, 2) := by decide +kernel
theorem dX6_findFar_65 : decode cX6_findFar 65 = .ok (.aload_n 0, 1) := by decide +kernel
theorem dX6_findFar_66 : decode cX6_findFar 66 = .ok (.getfield 29, 3) := by decide +kernel
theorem dX6_findFar_69 : decode cX6_findFar 69 = .ok (.iload 4, 2) := by decide +kernel
theorem dX6_findFar_71 : decode cX6_findFar 71 = .ok (.iaload, 1) := by decide +kernel
theorem dX6_findFar_72 : decode cX6_findFar 72 = .ok (.aload_n 0, 1) := by decide +kernel
theorem dX6_findFar_73 : decode cX6_findFar 73 = .ok (.iload_n 3, 1) := by decide +kernel
theorem dX6_findFar_74 : decode cX6_findFar 74 = .ok (.invokevirtual 82, 3) := by decide +kernel
theorem dX6_findFar_77 : decode cX6_findFar 77 = .ok (.iadd, 1) := by decide +kernel
theorem dX6_findFar_78 : decode cX6_findFar 78 = .ok (.aload_n 0, 1) := by decide +kernel
theorem dX6_findFar_79 : decode cX6_findFar 79 = .ok (.getfield 29, 3) := by decide +kernel
theorem dX6_findFar_82 : decode cX6_findFar 82 = .ok (.iload 5, 2) := by decide +kernel
theorem dX6_findFar_84 : decode cX6_findFar 84 = .ok (.iaload, 1) := by decide +kernel
theorem dX6_findFar_85 : decode cX6_findFar 85 = .ok (.if_icmp .ge 19, 3) := by decide +kernel
theorem dX6_findFar_88 : decode cX6_findFar 88 = .ok (.aload_n 0, 1) := by decide +kernel
theorem dX6_findFar_89 : decode cX6_findFar 89 = .ok (.getfield 29, 3) := by decide +kernel
theorem dX6_findFar_92 : decode cX6_findFar 92 = .ok (.iload 4, 2) := by decide +kernel
theorem dX6_findFar_94 : decode cX6_findFar 94 = .ok (.iaload, 1) := by decide +kernel
theorem dX6_findFar_95 : decode cX6_findFar 95 = .ok (.aload_n 0, 1) := by decide +kernel
theorem dX6_findFar_96 : decode cX6_findFar 96 = .ok (.iload_n 3, 1) := by decide +kernel
theorem dX6_findFar_97 : decode cX6_findFar 97 = .ok (.invokevirtual 82, 3) := by decide +kernel
theorem dX6_findFar_100 : decode cX6_findFar 100 = .ok (.iadd, 1) := by decide +kernel
theorem dX6_findFar_101 : decode cX6_findFar 101 = .ok (.goto 10, 3) := by decide +kernel
theorem dX6_findFar_104 : decode cX6_findFar 104 = .ok (.aload_n 0, 1) := by decide +kernel
theorem dX6_findFar_105 : decode cX6_findFar 105 = .ok (.getfield 29, 3) := by decide +kernel
theorem dX6_findFar_108 : decode cX6_findFar 108 = .ok (.iload 5, 2) := by decide +kernel
theorem dX6_findFar_110 : decode cX6_findFar 110 = .ok (.iaload, 1) := by decide +kernel
theorem dX6_findFar_111 : decode cX6_findFar 111 = .ok (.iastore, 1) := by decide +kernel
theorem dX6_findFar_112 : decode cX6_findFar 112 = .ok (.aload_n 0, 1) := by decide +kernel
theorem dX6_findFar_113 : decode cX6_findFar 113 = .ok (.getfield 29, 3) := by decide +kernel
theorem dX6_findFar_116 : decode cX6_findFar 116 = .ok (.iload 4, 2) := by decide +kernel
theorem dX6_findFar_118 : decode cX6_findFar 118 = .ok (.aload_n 0, 1) := by decide +kernel
theorem dX6_findFar_119 : decode cX6_findFar 119 = .ok (.getfield 29, 3) := by decide +kernel
theorem dX6_findFar_122 : decode cX6_findFar 122 = .ok (.iload 5, 2) := by decide +kernel
theorem dX6_findFar_124 : decode cX6_findFar 124 = .ok (.iaload, 1) := by decide +kernel
theorem dX6_findFar_125 : decode cX6_findFar 125 = .ok (.aload_n 0, 1) := by decide +kernel
theorem dX6_findFar_126 : decode cX6_findFar 126 = .ok (.iload_n 3, 1) := by decide +kernel
theorem dX6_findFar_127 : decode cX6_findFar 127 = .ok (.invokevirtual 82, 3) := by decide +kernel
theorem dX6_findFar_130 : decode cX6_findFar 130 = .ok (.iadd, 1) := by decide +kernel
theorem dX6_findFar_131 : decode cX6_findFar 131 = .ok (.aload_n 0, 1) := by decide +kernel
theorem dX6_findFar_132 : decode cX6_findFar 132 = .ok (.getfield 29, 3) := by decide +kernel
theorem dX6_findFar_135 : decode cX6_findFar 135 = .ok (.iload 4, 2) := by decide +kernel
theorem dX6_findFar_137 : decode cX6_findFar 137 = .ok (.iaload, 1) := by decide +kernel
theorem dX6_findFar_138 : decode cX6_findFar 138 = .ok (.if_icmp .ge 19, 3) := by decide +kernel
theorem dX6_findFar_141 : decode cX6_findFar 141 = .ok (.aload_n 0, 1) := by decide +kernel
theorem dX6_findFar_142 : decode cX6_findFar 142 = .ok (.getfield 29, 3) := by decide +kernel
theorem dX6_findFar_145 : decode cX6_findFar 145 = .ok (.iload 5, 2) := by decide +kernel
theorem dX6_findFar_147 : decode cX6_findFar 147 = .ok (.iaload, 1) := by decide +kernel
theorem dX6_findFar_148 : decode cX6_findFar 148 = .ok (.aload_n 0, 1) := by decide +kernel
theorem dX6_findFar_149 : decode cX6_findFar 149 = .ok (.iload_n 3, 1) := by decide +kernel
theorem dX6_findFar_150 : decode cX6_findFar 150 = .ok (.invokevirtual 82, 3) := by decide +kernel
theorem dX6_findFar_153 : decode cX6_findFar 153 = .ok (.iadd, 1) := by decide +kernel
theorem dX6_findFar_154 : decode cX6_findFar 154 = .ok (.goto 10, 3) := by decide +kernel
theorem dX6_findFar_157 : decode cX6_findFar 157 = .ok (.aload_n 0, 1) := by decide +kernel
theorem dX6_findFar_158 : decode cX6_findFar 158 = .ok (.getfield 29, 3) := by decide +kernel
theorem dX6_findFar_161 : decode cX6_findFar 161 = .ok (.iload 4, 2) := by decide +kernel
theorem dX6_findFar_163 : decode cX6_findFar 163 = .ok (.iaload, 1) := by decide +kernel
theorem dX6_findFar_164 : decode cX6_findFar 164 = .ok (.iastore, 1) := by decide +kernel
theorem dX6_findFar_165 : decode cX6_findFar 165 = .ok (.iinc 3 1, 3) := by decide +kernel
theorem dX6_findFar_168 : decode cX6_findFar 168 = .ok (.goto (-127), 3) := by decide +kernel
theorem dX6_findFar_171 : decode cX6_findFar 171 = .ok (.iinc 2 1, 3) := by decide +kernel
theorem dX6_findFar_174 : decode cX6_findFar 174 = .ok (.goto (-141), 3) := by decide +kernel
theorem dX6_findFar_177 : decode cX6_findFar 177 = .ok (.return_, 1) := by decide +kernel
set_option maxRecDepth 20000 in
theorem ggX6_apartFrom_X6_findFar : GoodIn wsX6_apartFrom wsX6_findFar := goodIn_r _ [6, 1, 7, 8, 9, 5, 10, 11, 12, 13, 14, 15, 16, 17, 18, 19, 20, 21, 22, 23, 24, 25, 26, 27, 28, 29, 30, 31, 32, 33, 34, 35, 36, 37, 38] (by decide +kernel) (by decide +kernel)
set_option maxRecDepth 20000 in
theorem gX6_apartFrom_X6_findFar : GoodIn wsX6_apartFrom (wsV RX6 89 RX6 yX6_findFar wsX6_findFar) := goodIn_app (goodIn_of _ (by decide +kernel)) ggX6_apartFrom_X6_findFar
theorem dX6_apartFrom_0 : decode cX6_apartFrom 0 = .ok (.aload_n 0, 1) := by decide +kernel
theorem dX6_apartFrom_1 : decode cX6_apartFrom 1 = .ok (.iload_n 1, 1) := by decide +kernel
theorem dX6_apartFrom_2 : decode cX6_apartFrom 2 = .ok (.invokevirtual 89, 3) := by decide +kernel
theorem dX6_apartFrom_5 : decode cX6_apartFrom 5 = .ok (.aload_n 0, 1) := by decide +kernel
theorem dX6_apartFrom_6 : decode cX6_apartFrom 6 = .ok (.getfield 29, 3) := by decide +kernel
theorem dX6_apartFrom_9 : decode cX6_apartFrom 9 = .ok (.iload_n 2, 1) := by decide +kernel
theorem dX6_apartFrom_10 : decode cX6_apartFrom 10 = .ok (.iaload, 1) := by decide +kernel
theorem dX6_apartFrom_11 : decode cX6_apartFrom 11 = .ok (.ireturn, 1) := by decide +kernel
set_option maxRecDepth 20000 in
theorem ggX6_apart_X6_isNode : GoodIn wsX6_apart wsX6_isNode := goodIn_r _ [4, 5, 6, 3, 7] (by decide +kernel) (by decide +kernel)
set_option maxRecDepth 20000 in
theorem gX6_apart_X6_isNode : GoodIn wsX6_apart (va_wsS RX6 93 yX6_isNode wsX6_isNode) := goodIn_app (goodIn_of _ (by decide +kernel)) ggX6_apart_X6_isNode
set_option maxRecDepth 20000 in
theorem ggX6_apart_X6_refused : GoodIn wsX6_apart wsX6_refused := goodIn_r _ [11, 12, 35, 36, 37, 38, 39, 40, 41, 42, 43, 44, 45, 46, 47, 48, 49, 50, 51, 52, 53] (by decide +kernel) (by decide +kernel)
set_option maxRecDepth 20000 in
theorem gX6_apart_X6_refused : GoodIn wsX6_apart (wsV RX6 68 RX6 yX6_refused wsX6_refused) := goodIn_app (goodIn_of _ (by decide +kernel)) ggX6_apart_X6_refused
set_option maxRecDepth 20000 in
theorem ggX6_apart_X6_apartFrom : GoodIn wsX6_apart wsX6_apartFrom := goodIn_r _ [16, 17, 18, 19, 20, 3, 21, 22, 23, 24, 25, 26, 27, 28, 29, 30, 31, 32, 33, 34, 35, 36, 37, 38, 39, 40, 41, 42, 43, 44, 45, 46, 47, 48, 49, 50, 51, 52, 53] (by decide +kernel) (by decide +kernel)
set_option maxRecDepth 20000 in
theorem gX6_apart_X6_apartFrom : GoodIn wsX6_apart (wsV RX6 96 RX6 yX6_apartFrom wsX6_apartFrom) := goodIn_app (goodIn_of _ (by decide +kernel)) ggX6_apart_X6_apartFrom
theorem dX6_apart_0 : decode cX6_apart 0 = .ok (.aload_n 0, 1) := by decide +kernel
theorem dX6_apart_1 : decode cX6_apart 1 = .ok (.iload_n 1, 1) := by decide +kernel
theorem dX6_apart_2 : decode cX6_apart 2 = .ok (.invokestatic 93, 3) := by decide +kernel
theorem dX6_apart_5 : decode cX6_apart 5 = .ok (.ifCond .eq 14, 3) := by decide +kernel
theorem dX6_apart_8 : decode cX6_apart 8 = .ok (.iload_n 2, 1) := by decide +kernel
theorem dX6_apart_9 : decode cX6_apart 9 = .ok (.invokestatic 93, 3) := by decide +kernel
theorem dX6_apart_12 : decode cX6_apart 12 = .ok (.ifCond .eq 7, 3) := by decide +kernel
theorem dX6_apart_15 : decode cX6_apart 15 = .ok (.iconst 0, 1) := by decide +kernel
theorem dX6_apart_16 : decode cX6_apart 16 = .ok (.goto 4, 3) := by decide +kernel
theorem dX6_apart_19 : decode cX6_apart 19 = .ok (.iconst 1, 1) := by decide +kernel
theorem dX6_apart_20 : decode cX6_apart 20 = .ok (.invokevirtual 68, 3) := by decide +kernel
theorem dX6_apart_23 : decode cX6_apart 23 = .ok (.ifCond .eq 7, 3) := by decide +kernel
theorem dX6_apart_26 : decode cX6_apart 26 = .ok (.iconst 0, 1) := by decide +kernel
theorem dX6_apart_27 : decode cX6_apart 27 = .ok (.goto 9, 3) := by decide +kernel
theorem dX6_apart_30 : decode cX6_apart 30 = .ok (.aload_n 0, 1) := by decide +kernel
theorem dX6_apart_31 : decode cX6_apart 31 = .ok (.iload_n 1, 1) := by decide +kernel
theorem dX6_apart_32 : decode cX6_apart 32 = .ok (.iload_n 2, 1) := by decide +kernel
theorem dX6_apart_33 : decode cX6_apart 33 = .ok (.invokevirtual 96, 3) := by decide +kernel
theorem dX6_apart_36 : decode cX6_apart 36 = .ok (.ireturn, 1) := by decide +kernel
theorem dX6_isTown_0 : decode cX6_isTown 0 = .ok (.iconst 0, 1) := by decide +kernel
theorem dX6_isTown_1 : decode cX6_isTown 1 = .ok (.istore_n 2, 1) := by decide +kernel
theorem dX6_isTown_2 : decode cX6_isTown 2 = .ok (.iconst 0, 1) := by decide +kernel
theorem dX6_isTown_3 : decode cX6_isTown 3 = .ok (.istore_n 3, 1) := by decide +kernel
theorem dX6_isTown_4 : decode cX6_isTown 4 = .ok (.iload_n 3, 1) := by decide +kernel
theorem dX6_isTown_5 : decode cX6_isTown 5 = .ok (.aload_n 0, 1) := by decide +kernel
theorem dX6_isTown_6 : decode cX6_isTown 6 = .ok (.getfield 100, 3) := by decide +kernel
theorem dX6_isTown_9 : decode cX6_isTown 9 = .ok (.if_icmp .ge 29, 3) := by decide +kernel
theorem dX6_isTown_12 : decode cX6_isTown 12 = .ok (.iload_n 2, 1) := by decide +kernel
theorem dX6_isTown_13 : decode cX6_isTown 13 = .ok (.ifCond .ne 13, 3) := by decide +kernel
theorem dX6_isTown_16 : decode cX6_isTown 16 = .ok (.aload_n 0, 1) := by decide +kernel
theorem dX6_isTown_17 : decode cX6_isTown 17 = .ok (.getfield 16, 3) := by decide +kernel
theorem dX6_isTown_20 : decode cX6_isTown 20 = .ok (.iload_n 3, 1) := by decide +kernel
theorem dX6_isTown_21 : decode cX6_isTown 21 = .ok (.iaload, 1) := by decide +kernel
theorem dX6_isTown_22 : decode cX6_isTown 22 = .ok (.iload_n 1, 1) := by decide +kernel
theorem dX6_isTown_23 : decode cX6_isTown 23 = .ok (.if_icmp .ne 7, 3) := by decide +kernel
theorem dX6_isTown_26 : decode cX6_isTown 26 = .ok (.iconst 1, 1) := by decide +kernel
theorem dX6_isTown_27 : decode cX6_isTown 27 = .ok (.goto 4, 3) := by decide +kernel
theorem dX6_isTown_30 : decode cX6_isTown 30 = .ok (.iconst 0, 1) := by decide +kernel
theorem dX6_isTown_31 : decode cX6_isTown 31 = .ok (.istore_n 2, 1) := by decide +kernel
theorem dX6_isTown_32 : decode cX6_isTown 32 = .ok (.iinc 3 1, 3) := by decide +kernel
theorem dX6_isTown_35 : decode cX6_isTown 35 = .ok (.goto (-31), 3) := by decide +kernel
theorem dX6_isTown_38 : decode cX6_isTown 38 = .ok (.iload_n 2, 1) := by decide +kernel
theorem dX6_isTown_39 : decode cX6_isTown 39 = .ok (.ireturn, 1) := by decide +kernel
set_option maxRecDepth 20000 in
theorem ggX6_town_X6_isNode : GoodIn wsX6_town wsX6_isNode := goodIn_r _ [6, 7, 8, 5, 9] (by decide +kernel) (by decide +kernel)
set_option maxRecDepth 20000 in
theorem gX6_town_X6_isNode : GoodIn wsX6_town (va_wsS RX6 93 yX6_isNode wsX6_isNode) := goodIn_app (goodIn_of _ (by decide +kernel)) ggX6_town_X6_isNode
set_option maxRecDepth 20000 in
theorem ggX6_town_X6_isTown : GoodIn wsX6_town wsX6_isTown := goodIn_r _ [13, 1, 2, 19, 20, 21, 22, 23, 24, 25, 26, 27, 28, 29, 30, 31, 32, 33, 34, 35, 36, 37] (by decide +kernel) (by decide +kernel)
set_option maxRecDepth 20000 in
theorem gX6_town_X6_isTown : GoodIn wsX6_town (wsV RX6 103 RX6 yX6_isTown wsX6_isTown) := goodIn_app (goodIn_of _ (by decide +kernel)) ggX6_town_X6_isTown
set_option maxRecDepth 20000 in
theorem ggX6_town_X6_refused : GoodIn wsX6_town wsX6_refused := goodIn_r _ [17, 18, 19, 20, 21, 22, 23, 24, 25, 26, 27, 28, 29, 30, 31, 32, 33, 34, 35, 36, 37] (by decide +kernel) (by decide +kernel)
set_option maxRecDepth 20000 in
theorem gX6_town_X6_refused : GoodIn wsX6_town (wsV RX6 68 RX6 yX6_refused wsX6_refused) := goodIn_app (goodIn_of _ (by decide +kernel)) ggX6_town_X6_refused
theorem dX6_town_0 : decode cX6_town 0 = .ok (.iload_n 1, 1) := by decide +kernel
theorem dX6_town_1 : decode cX6_town 1 = .ok (.invokestatic 93, 3) := by decide +kernel
theorem dX6_town_4 : decode cX6_town 4 = .ok (.istore_n 2, 1) := by decide +kernel
theorem dX6_town_5 : decode cX6_town 5 = .ok (.aload_n 0, 1) := by decide +kernel
theorem dX6_town_6 : decode cX6_town 6 = .ok (.iload_n 2, 1) := by decide +kernel
theorem dX6_town_7 : decode cX6_town 7 = .ok (.ifCond .ne 7, 3) := by decide +kernel
theorem dX6_town_10 : decode cX6_town 10 = .ok (.iconst 1, 1) := by decide +kernel
theorem dX6_town_11 : decode cX6_town 11 = .ok (.goto 25, 3) := by decide +kernel
theorem dX6_town_14 : decode cX6_town 14 = .ok (.aload_n 0, 1) := by decide +kernel
theorem dX6_town_15 : decode cX6_town 15 = .ok (.iload_n 1, 1) := by decide +kernel
theorem dX6_town_16 : decode cX6_town 16 = .ok (.invokevirtual 103, 3) := by decide +kernel
theorem dX6_town_19 : decode cX6_town 19 = .ok (.ifCond .ne 12, 3) := by decide +kernel
theorem dX6_town_22 : decode cX6_town 22 = .ok (.aload_n 0, 1) := by decide +kernel
theorem dX6_town_23 : decode cX6_town 23 = .ok (.getfield 100, 3) := by decide +kernel
theorem dX6_town_26 : decode cX6_town 26 = .ok (.bipush 6, 2) := by decide +kernel
theorem dX6_town_28 : decode cX6_town 28 = .ok (.if_icmp .ne 7, 3) := by decide +kernel
theorem dX6_town_31 : decode cX6_town 31 = .ok (.iconst 2, 1) := by decide +kernel
theorem dX6_town_32 : decode cX6_town 32 = .ok (.goto 4, 3) := by decide +kernel
theorem dX6_town_35 : decode cX6_town 35 = .ok (.iconst 0, 1) := by decide +kernel
theorem dX6_town_36 : decode cX6_town 36 = .ok (.invokevirtual 68, 3) := by decide +kernel
theorem dX6_town_39 : decode cX6_town 39 = .ok (.ifCond .eq 5, 3) := by decide +kernel
theorem dX6_town_42 : decode cX6_town 42 = .ok (.iconst 0, 1) := by decide +kernel
theorem dX6_town_43 : decode cX6_town 43 = .ok (.ireturn, 1) := by decide +kernel
theorem dX6_town_44 : decode cX6_town 44 = .ok (.aload_n 0, 1) := by decide +kernel
theorem dX6_town_45 : decode cX6_town 45 = .ok (.getfield 16, 3) := by decide +kernel
theorem dX6_town_48 : decode cX6_town 48 = .ok (.aload_n 0, 1) := by decide +kernel
theorem dX6_town_49 : decode cX6_town 49 = .ok (.getfield 100, 3) := by decide +kernel
theorem dX6_town_52 : decode cX6_town 52 = .ok (.iload_n 1, 1) := by decide +kernel
theorem dX6_town_53 : decode cX6_town 53 = .ok (.iastore, 1) := by decide +kernel
theorem dX6_town_54 : decode cX6_town 54 = .ok (.aload_n 0, 1) := by decide +kernel
theorem dX6_town_55 : decode cX6_town 55 = .ok (.dup, 1) := by decide +kernel
theorem dX6_town_56 : decode cX6_town 56 = .ok (.getfield 100, 3) := by decide +kernel
theorem dX6_town_59 : decode cX6_town 59 = .ok (.iconst 1, 1) := by decide +kernel
theorem dX6_town_60 : decode cX6_town 60 = .ok (.iadd, 1) := by decide +kernel
theorem dX6_town_61 : decode cX6_town 61 = .ok (.putfield 100, 3) := by decide +kernel
theorem dX6_town_64 : decode cX6_town 64 = .ok (.aload_n 0, 1) := by decide +kernel
theorem dX6_town_65 : decode cX6_town 65 = .ok (.getfield 100, 3) := by decide +kernel
theorem dX6_town_68 : decode cX6_town 68 = .ok (.iconst 1, 1) := by decide +kernel
theorem dX6_town_69 : decode cX6_town 69 = .ok (.isub, 1) := by decide +kernel
theorem dX6_town_70 : decode cX6_town 70 = .ok (.ireturn, 1) := by decide +kernel
set_option maxRecDepth 20000 in
theorem ggX6_away_X6_in : GoodIn wsX6_away wsX6_in := goodIn_r _ [6] (by decide +kernel) (by decide +kernel)
set_option maxRecDepth 20000 in
theorem gX6_away_X6_in : GoodIn wsX6_away (va_wsS RX6 60 yX6_in wsX6_in) := goodIn_app (goodIn_of _ (by decide +kernel)) ggX6_away_X6_in
set_option maxRecDepth 20000 in
theorem ggX6_away_X6_refused : GoodIn wsX6_away wsX6_refused := goodIn_r _ [10, 11, 12, 13, 14, 15, 16, 17, 18, 19, 20, 21, 22, 23, 24, 25, 26, 27, 28, 29, 30] (by decide +kernel) (by decide +kernel)
set_option maxRecDepth 20000 in
theorem gX6_away_X6_refused : GoodIn wsX6_away (wsV RX6 68 RX6 yX6_refused wsX6_refused) := goodIn_app (goodIn_of _ (by decide +kernel)) ggX6_away_X6_refused
theorem dX6_away_0 : decode cX6_away 0 = .ok (.aload_n 0, 1) := by decide +kernel
theorem dX6_away_1 : decode cX6_away 1 = .ok (.iload_n 1, 1) := by decide +kernel
theorem dX6_away_2 : decode cX6_away 2 = .ok (.iconst 0, 1) := by decide +kernel
theorem dX6_away_3 : decode cX6_away 3 = .ok (.aload_n 0, 1) := by decide +kernel
theorem dX6_away_4 : decode cX6_away 4 = .ok (.getfield 100, 3) := by decide +kernel
theorem dX6_away_7 : decode cX6_away 7 = .ok (.iconst 1, 1) := by decide +kernel
theorem dX6_away_8 : decode cX6_away 8 = .ok (.isub, 1) := by decide +kernel
theorem dX6_away_9 : decode cX6_away 9 = .ok (.invokestatic 60, 3) := by decide +kernel
theorem dX6_away_12 : decode cX6_away 12 = .ok (.ifCond .eq 7, 3) := by decide +kernel
theorem dX6_away_15 : decode cX6_away 15 = .ok (.iconst 0, 1) := by decide +kernel
theorem dX6_away_16 : decode cX6_away 16 = .ok (.goto 4, 3) := by decide +kernel
theorem dX6_away_19 : decode cX6_away 19 = .ok (.iconst 1, 1) := by decide +kernel
theorem dX6_away_20 : decode cX6_away 20 = .ok (.invokevirtual 68, 3) := by decide +kernel
theorem dX6_away_23 : decode cX6_away 23 = .ok (.ifCond .eq 5, 3) := by decide +kernel
theorem dX6_away_26 : decode cX6_away 26 = .ok (.iconst 0, 1) := by decide +kernel
theorem dX6_away_27 : decode cX6_away 27 = .ok (.ireturn, 1) := by decide +kernel
theorem dX6_away_28 : decode cX6_away 28 = .ok (.aload_n 0, 1) := by decide +kernel
theorem dX6_away_29 : decode cX6_away 29 = .ok (.getfield 16, 3) := by decide +kernel
theorem dX6_away_32 : decode cX6_away 32 = .ok (.iload_n 1, 1) := by decide +kernel
theorem dX6_away_33 : decode cX6_away 33 = .ok (.iaload, 1) := by decide +kernel
theorem dX6_away_34 : decode cX6_away 34 = .ok (.istore_n 2, 1) := by decide +kernel
theorem dX6_away_35 : decode cX6_away 35 = .ok (.aload_n 0, 1) := by decide +kernel
theorem dX6_away_36 : decode cX6_away 36 = .ok (.dup, 1) := by decide +kernel
theorem dX6_away_37 : decode cX6_away 37 = .ok (.getfield 100, 3) := by decide +kernel
theorem dX6_away_40 : decode cX6_away 40 = .ok (.iconst 1, 1) := by decide +kernel
theorem dX6_away_41 : decode cX6_away 41 = .ok (.isub, 1) := by decide +kernel
theorem dX6_away_42 : decode cX6_away 42 = .ok (.putfield 100, 3) := by decide +kernel
theorem dX6_away_45 : decode cX6_away 45 = .ok (.iload_n 1, 1) := by decide +kernel
theorem dX6_away_46 : decode cX6_away 46 = .ok (.istore_n 3, 1) := by decide +kernel
theorem dX6_away_47 : decode cX6_away 47 = .ok (.iload_n 3, 1) := by decide +kernel
theorem dX6_away_48 : decode cX6_away 48 = .ok (.aload_n 0, 1) := by decide +kernel
theorem dX6_away_49 : decode cX6_away 49 = .ok (.getfield 100, 3) := by decide +kernel
theorem dX6_away_52 : decode cX6_away 52 = .ok (.if_icmp .ge 23, 3) := by decide +kernel
theorem dX6_away_55 : decode cX6_away 55 = .ok (.aload_n 0, 1) := by decide +kernel
theorem dX6_away_56 : decode cX6_away 56 = .ok (.getfield 16, 3) := by decide +kernel
theorem dX6_away_59 : decode cX6_away 59 = .ok (.iload_n 3, 1) := by decide +kernel
theorem dX6_away_60 : decode cX6_away 60 = .ok (.aload_n 0, 1) := by decide +kernel
theorem dX6_away_61 : decode cX6_away 61 = .ok (.getfield 16, 3) := by decide +kernel
theorem dX6_away_64 : decode cX6_away 64 = .ok (.iload_n 3, 1) := by decide +kernel
theorem dX6_away_65 : decode cX6_away 65 = .ok (.iconst 1, 1) := by decide +kernel
theorem dX6_away_66 : decode cX6_away 66 = .ok (.iadd, 1) := by decide +kernel
theorem dX6_away_67 : decode cX6_away 67 = .ok (.iaload, 1) := by decide +kernel
theorem dX6_away_68 : decode cX6_away 68 = .ok (.iastore, 1) := by decide +kernel
theorem dX6_away_69 : decode cX6_away 69 = .ok (.iinc 3 1, 3) := by decide +kernel
theorem dX6_away_72 : decode cX6_away 72 = .ok (.goto (-25), 3) := by decide +kernel
theorem dX6_away_75 : decode cX6_away 75 = .ok (.iload_n 2, 1) := by decide +kernel
theorem dX6_away_76 : decode cX6_away 76 = .ok (.ireturn, 1) := by decide +kernel
set_option maxRecDepth 20000 in
theorem ggX6_townAt_X6_in : GoodIn wsX6_townAt wsX6_in := goodIn_r _ [6] (by decide +kernel) (by decide +kernel)
set_option maxRecDepth 20000 in
theorem gX6_townAt_X6_in : GoodIn wsX6_townAt (va_wsS RX6 60 yX6_in wsX6_in) := goodIn_app (goodIn_of _ (by decide +kernel)) ggX6_townAt_X6_in
set_option maxRecDepth 20000 in
theorem ggX6_townAt_X6_refused : GoodIn wsX6_townAt wsX6_refused := goodIn_r _ [10, 11, 12, 13, 14, 15, 16, 17, 18, 19, 20, 21, 22, 23, 24, 25, 26, 27, 28, 29, 30] (by decide +kernel) (by decide +kernel)
set_option maxRecDepth 20000 in
theorem gX6_townAt_X6_refused : GoodIn wsX6_townAt (wsV RX6 68 RX6 yX6_refused wsX6_refused) := goodIn_app (goodIn_of _ (by decide +kernel)) ggX6_townAt_X6_refused
theorem dX6_townAt_0 : decode cX6_townAt 0 = .ok (.aload_n 0, 1) := by decide +kernel
theorem dX6_townAt_1 : decode cX6_townAt 1 = .ok (.iload_n 1, 1) := by decide +kernel
theorem dX6_townAt_2 : decode cX6_townAt 2 = .ok (.iconst 0, 1) := by decide +kernel
theorem dX6_townAt_3 : decode cX6_townAt 3 = .ok (.aload_n 0, 1) := by decide +kernel
theorem dX6_townAt_4 : decode cX6_townAt 4 = .ok (.getfield 100, 3) := by decide +kernel
theorem dX6_townAt_7 : decode cX6_townAt 7 = .ok (.iconst 1, 1) := by decide +kernel
theorem dX6_townAt_8 : decode cX6_townAt 8 = .ok (.isub, 1) := by decide +kernel
theorem dX6_townAt_9 : decode cX6_townAt 9 = .ok (.invokestatic 60, 3) := by decide +kernel
theorem dX6_townAt_12 : decode cX6_townAt 12 = .ok (.ifCond .eq 7, 3) := by decide +kernel
theorem dX6_townAt_15 : decode cX6_townAt 15 = .ok (.iconst 0, 1) := by decide +kernel
theorem dX6_townAt_16 : decode cX6_townAt 16 = .ok (.goto 4, 3) := by decide +kernel
theorem dX6_townAt_19 : decode cX6_townAt 19 = .ok (.iconst 1, 1) := by decide +kernel
theorem dX6_townAt_20 : decode cX6_townAt 20 = .ok (.invokevirtual 68, 3) := by decide +kernel
theorem dX6_townAt_23 : decode cX6_townAt 23 = .ok (.ifCond .eq 7, 3) := by decide +kernel
theorem dX6_townAt_26 : decode cX6_townAt 26 = .ok (.iconst 0, 1) := by decide +kernel
theorem dX6_townAt_27 : decode cX6_townAt 27 = .ok (.goto 9, 3) := by decide +kernel
theorem dX6_townAt_30 : decode cX6_townAt 30 = .ok (.aload_n 0, 1) := by decide +kernel
theorem dX6_townAt_31 : decode cX6_townAt 31 = .ok (.getfield 16, 3) := by decide +kernel
theorem dX6_townAt_34 : decode cX6_townAt 34 = .ok (.iload_n 1, 1) := by decide +kernel
theorem dX6_townAt_35 : decode cX6_townAt 35 = .ok (.iaload, 1) := by decide +kernel
theorem dX6_townAt_36 : decode cX6_townAt 36 = .ok (.ireturn, 1) := by decide +kernel
set_option maxRecDepth 20000 in
theorem ggX6_spread_X6_first : GoodIn wsX6_spread wsX6_first := goodIn_r _ [6] (by decide +kernel) (by decide +kernel)
set_option maxRecDepth 20000 in
theorem gX6_spread_X6_first : GoodIn wsX6_spread (va_wsS RX6 64 yX6_first wsX6_first) := goodIn_app (goodIn_of _ (by decide +kernel)) ggX6_spread_X6_first
set_option maxRecDepth 20000 in
theorem ggX6_spread_X6_second : GoodIn wsX6_spread wsX6_second := goodIn_r _ [9, 3, 4, 5, 6] (by decide +kernel) (by decide +kernel)
set_option maxRecDepth 20000 in
theorem gX6_spread_X6_second : GoodIn wsX6_spread (va_wsS RX6 86 yX6_second wsX6_second) := goodIn_app (goodIn_of _ (by decide +kernel)) ggX6_spread_X6_second
set_option maxRecDepth 20000 in
theorem ggX6_spread_X6_costOfEdge : GoodIn wsX6_spread wsX6_costOfEdge := goodIn_r _ [13, 14, 15, 16, 17, 18, 19, 20, 21, 22, 23, 24, 25, 26, 27, 28, 29, 30, 31, 32, 33, 34] (by decide +kernel) (by decide +kernel)
set_option maxRecDepth 20000 in
theorem gX6_spread_X6_costOfEdge : GoodIn wsX6_spread (wsV RX6 82 RX6 yX6_costOfEdge wsX6_costOfEdge) := goodIn_app (goodIn_of _ (by decide +kernel)) ggX6_spread_X6_costOfEdge
theorem dX6_spread_0 : decode cX6_spread 0 = .ok (.iconst 1, 1) := by decide +kernel
theorem dX6_spread_1 : decode cX6_spread 1 = .ok (.istore_n 2, 1) := by decide +kernel
theorem dX6_spread_2 : decode cX6_spread 2 = .ok (.iload_n 2, 1) := by decide +kernel
theorem dX6_spread_3 : decode cX6_spread 3 = .ok (.ifCond .eq 141, 3) := by decide +kernel
theorem dX6_spread_6 : decode cX6_spread 6 = .ok (.iconst 0, 1) := by decide +kernel
theorem dX6_spread_7 : decode cX6_spread 7 = .ok (.istore_n 2, 1) := by decide +kernel
theorem dX6_spread_8 : decode cX6_spread 8 = .ok (.iconst 0, 1) := by decide +kernel
theorem dX6_spread_9 : decode cX6_spread 9 = .ok (.istore_n 3, 1) := by decide +kernel
theorem dX6_spread_10 : decode cX6_spread 10 = .ok (.iload_n 3, 1) := by decide +kernel
theorem dX6_spread_11 : decode cX6_spread 11 = .ok (.bipush 60, 2) := by decide +kernel
theorem dX6_spread_13 : decode cX6_spread 13 = .ok (.if_icmp .ge 128, 3) := by decide +kernel
theorem dX6_spread_16 : decode cX6_spread 16 = .ok (.bipush 36, 2) := by decide +kernel
theorem dX6_spread_18 : decode cX6_spread 18 = .ok (.iload_n 1, 1) := by decide +kernel
theorem dX6_spread_19 : decode cX6_spread 19 = .ok (.imul, 1) := by decide +kernel
theorem dX6_spread_20 : decode cX6_spread 20 = .ok (.iload_n 3, 1) := by decide +kernel
theorem dX6_spread_21 : decode cX6_spread 21 = .ok (.invokestatic 64, 3) := by decide +kernel
theorem dX6_spread_24 : decode cX6_spread 24 = .ok (.iadd, 1) := by decide +kernel
theorem dX6_spread_25 : decode cX6_spread 25 = .ok (.istore 4, 2) := by decide +kernel
theorem dX6_spread_27 : decode cX6_spread 27 = .ok (.bipush 36, 2) := by decide +kernel
theorem dX6_spread_29 : decode cX6_spread 29 = .ok (.iload_n 1, 1) := by decide +kernel
theorem dX6_spread_30 : decode cX6_spread 30 = .ok (.imul, 1) := by decide +kernel
theorem dX6_spread_31 : decode cX6_spread 31 = .ok (.iload_n 3, 1) := by decide +kernel
theorem dX6_spread_32 : decode cX6_spread 32 = .ok (.invokestatic 86, 3) := by decide +kernel
theorem dX6_spread_35 : decode cX6_spread 35 = .ok (.iadd, 1) := by decide +kernel
theorem dX6_spread_36 : decode cX6_spread 36 = .ok (.istore 5, 2) := by decide +kernel
theorem dX6_spread_38 : decode cX6_spread 38 = .ok (.iload_n 3, 1) := by decide +kernel
theorem dX6_spread_39 : decode cX6_spread 39 = .ok (.aload_n 0, 1) := by decide +kernel
theorem dX6_spread_40 : decode cX6_spread 40 = .ok (.getfield 53, 3) := by decide +kernel
theorem dX6_spread_43 : decode cX6_spread 43 = .ok (.if_icmp .ne 7, 3) := by decide +kernel
theorem dX6_spread_46 : decode cX6_spread 46 = .ok (.iconst 0, 1) := by decide +kernel
theorem dX6_spread_47 : decode cX6_spread 47 = .ok (.goto 8, 3) := by decide +kernel
theorem dX6_spread_50 : decode cX6_spread 50 = .ok (.aload_n 0, 1) := by decide +kernel
theorem dX6_spread_51 : decode cX6_spread 51 = .ok (.iload_n 3, 1) := by decide +kernel
theorem dX6_spread_52 : decode cX6_spread 52 = .ok (.invokevirtual 82, 3) := by decide +kernel
theorem dX6_spread_55 : decode cX6_spread 55 = .ok (.istore 6, 2) := by decide +kernel
theorem dX6_spread_57 : decode cX6_spread 57 = .ok (.aload_n 0, 1) := by decide +kernel
theorem dX6_spread_58 : decode cX6_spread 58 = .ok (.getfield 35, 3) := by decide +kernel
theorem dX6_spread_61 : decode cX6_spread 61 = .ok (.iload 4, 2) := by decide +kernel
theorem dX6_spread_63 : decode cX6_spread 63 = .ok (.iaload, 1) := by decide +kernel
theorem dX6_spread_64 : decode cX6_spread 64 = .ok (.iload 6, 2) := by decide +kernel
theorem dX6_spread_66 : decode cX6_spread 66 = .ok (.iadd, 1) := by decide +kernel
theorem dX6_spread_67 : decode cX6_spread 67 = .ok (.aload_n 0, 1) := by decide +kernel
theorem dX6_spread_68 : decode cX6_spread 68 = .ok (.getfield 35, 3) := by decide +kernel
theorem dX6_spread_71 : decode cX6_spread 71 = .ok (.iload 5, 2) := by decide +kernel
theorem dX6_spread_73 : decode cX6_spread 73 = .ok (.iaload, 1) := by decide +kernel
theorem dX6_spread_74 : decode cX6_spread 74 = .ok (.if_icmp .ge 22, 3) := by decide +kernel
theorem dX6_spread_77 : decode cX6_spread 77 = .ok (.aload_n 0, 1) := by decide +kernel
theorem dX6_spread_78 : decode cX6_spread 78 = .ok (.getfield 35, 3) := by decide +kernel
theorem dX6_spread_81 : decode cX6_spread 81 = .ok (.iload 5, 2) := by decide +kernel
theorem dX6_spread_83 : decode cX6_spread 83 = .ok (.aload_n 0, 1) := by decide +kernel
theorem dX6_spread_84 : decode cX6_spread 84 = .ok (.getfield 35, 3) := by decide +kernel
theorem dX6_spread_87 : decode cX6_spread 87 = .ok (.iload 4, 2) := by decide +kernel
theorem dX6_spread_89 : decode cX6_spread 89 = .ok (.iaload, 1) := by decide +kernel
theorem dX6_spread_90 : decode cX6_spread 90 = .ok (.iload 6, 2) := by decide +kernel
theorem dX6_spread_92 : decode cX6_spread 92 = .ok (.iadd, 1) := by decide +kernel
theorem dX6_spread_93 : decode cX6_spread 93 = .ok (.iastore, 1) := by decide +kernel
theorem dX6_spread_94 : decode cX6_spread 94 = .ok (.iconst 1, 1) := by decide +kernel
theorem dX6_spread_95 : decode cX6_spread 95 = .ok (.istore_n 2, 1) := by decide +kernel
theorem dX6_spread_96 : decode cX6_spread 96 = .ok (.aload_n 0, 1) := by decide +kernel
theorem dX6_spread_97 : decode cX6_spread 97 = .ok (.getfield 35, 3) := by decide +kernel
theorem dX6_spread_100 : decode cX6_spread 100 = .ok (.iload 5, 2) := by decide +kernel
theorem dX6_spread_102 : decode cX6_spread 102 = .ok (.iaload, 1) := by decide +kernel
theorem dX6_spread_103 : decode cX6_spread 103 = .ok (.iload 6, 2) := by decide +kernel
theorem dX6_spread_105 : decode cX6_spread 105 = .ok (.iadd, 1) := by decide +kernel
theorem dX6_spread_106 : decode cX6_spread 106 = .ok (.aload_n 0, 1) := by decide +kernel
theorem dX6_spread_107 : decode cX6_spread 107 = .ok (.getfield 35, 3) := by decide +kernel
theorem dX6_spread_110 : decode cX6_spread 110 = .ok (.iload 4, 2) := by decide +kernel
theorem dX6_spread_112 : decode cX6_spread 112 = .ok (.iaload, 1) := by decide +kernel
theorem dX6_spread_113 : decode cX6_spread 113 = .ok (.if_icmp .ge 22, 3) := by decide +kernel
theorem dX6_spread_116 : decode cX6_spread 116 = .ok (.aload_n 0, 1) := by decide +kernel
theorem dX6_spread_117 : decode cX6_spread 117 = .ok (.getfield 35, 3) := by decide +kernel
theorem dX6_spread_120 : decode cX6_spread 120 = .ok (.iload 4, 2) := by decide +kernel
theorem dX6_spread_122 : decode cX6_spread 122 = .ok (.aload_n 0, 1) := by decide +kernel
theorem dX6_spread_123 : decode cX6_spread 123 = .ok (.getfield 35, 3) := by decide +kernel
theorem dX6_spread_126 : decode cX6_spread 126 = .ok (.iload 5, 2) := by decide +kernel
theorem dX6_spread_128 : decode cX6_spread 128 = .ok (.iaload, 1) := by decide +kernel
theorem dX6_spread_129 : decode cX6_spread 129 = .ok (.iload 6, 2) := by decide +kernel
theorem dX6_spread_131 : decode cX6_spread 131 = .ok (.iadd, 1) := by decide +kernel
theorem dX6_spread_132 : decode cX6_spread 132 = .ok (.iastore, 1) := by decide +kernel
theorem dX6_spread_133 : decode cX6_spread 133 = .ok (.iconst 1, 1) := by decide +kernel
theorem dX6_spread_134 : decode cX6_spread 134 = .ok (.istore_n 2, 1) := by decide +kernel
theorem dX6_spread_135 : decode cX6_spread 135 = .ok (.iinc 3 1, 3) := by decide +kernel
theorem dX6_spread_138 : decode cX6_spread 138 = .ok (.goto (-128), 3) := by decide +kernel
theorem dX6_spread_141 : decode cX6_spread 141 = .ok (.goto (-139), 3) := by decide +kernel
theorem dX6_spread_144 : decode cX6_spread 144 = .ok (.return_, 1) := by decide +kernel
set_option maxRecDepth 20000 in
theorem ggX6_leastOf_X6_spread : GoodIn wsX6_leastOf wsX6_spread := goodIn_r _ [8, 9, 3, 10, 11, 7, 12, 13, 14, 15, 16, 17, 18, 19, 20, 21, 22, 23, 24, 25, 26, 27, 28, 29, 30, 31, 32, 33, 34, 35, 36, 37, 38, 39, 40] (by decide +kernel) (by decide +kernel)
set_option maxRecDepth 20000 in
theorem gX6_leastOf_X6_spread : GoodIn wsX6_leastOf (wsV RX6 106 RX6 yX6_spread wsX6_spread) := goodIn_app (goodIn_of _ (by decide +kernel)) ggX6_leastOf_X6_spread
theorem dX6_leastOf_0 : decode cX6_leastOf 0 = .ok (.iload_n 1, 1) := by decide +kernel
theorem dX6_leastOf_1 : decode cX6_leastOf 1 = .ok (.iconst 2, 1) := by decide +kernel
theorem dX6_leastOf_2 : decode cX6_leastOf 2 = .ok (.if_icmp .ge 5, 3) := by decide +kernel
theorem dX6_leastOf_5 : decode cX6_leastOf 5 = .ok (.iconst 0, 1) := by decide +kernel
theorem dX6_leastOf_6 : decode cX6_leastOf 6 = .ok (.ireturn, 1) := by decide +kernel
theorem dX6_leastOf_7 : decode cX6_leastOf 7 = .ok (.iconst 1, 1) := by decide +kernel
theorem dX6_leastOf_8 : decode cX6_leastOf 8 = .ok (.istore_n 2, 1) := by decide +kernel
theorem dX6_leastOf_9 : decode cX6_leastOf 9 = .ok (.iload_n 2, 1) := by decide +kernel
theorem dX6_leastOf_10 : decode cX6_leastOf 10 = .ok (.iconst 1, 1) := by decide +kernel
theorem dX6_leastOf_11 : decode cX6_leastOf 11 = .ok (.iload_n 1, 1) := by decide +kernel
theorem dX6_leastOf_12 : decode cX6_leastOf 12 = .ok (.ishl, 1) := by decide +kernel
theorem dX6_leastOf_13 : decode cX6_leastOf 13 = .ok (.if_icmp .ge 156, 3) := by decide +kernel
theorem dX6_leastOf_16 : decode cX6_leastOf 16 = .ok (.iconst 0, 1) := by decide +kernel
theorem dX6_leastOf_17 : decode cX6_leastOf 17 = .ok (.istore_n 3, 1) := by decide +kernel
theorem dX6_leastOf_18 : decode cX6_leastOf 18 = .ok (.iload_n 3, 1) := by decide +kernel
theorem dX6_leastOf_19 : decode cX6_leastOf 19 = .ok (.bipush 36, 2) := by decide +kernel
theorem dX6_leastOf_21 : decode cX6_leastOf 21 = .ok (.if_icmp .ge 137, 3) := by decide +kernel
theorem dX6_leastOf_24 : decode cX6_leastOf 24 = .ok (.ldc 85, 2) := by decide +kernel
theorem dX6_leastOf_26 : decode cX6_leastOf 26 = .ok (.istore 4, 2) := by decide +kernel
theorem dX6_leastOf_28 : decode cX6_leastOf 28 = .ok (.iconst 0, 1) := by decide +kernel
theorem dX6_leastOf_29 : decode cX6_leastOf 29 = .ok (.istore 5, 2) := by decide +kernel
theorem dX6_leastOf_31 : decode cX6_leastOf 31 = .ok (.iload 5, 2) := by decide +kernel
theorem dX6_leastOf_33 : decode cX6_leastOf 33 = .ok (.iload_n 1, 1) := by decide +kernel
theorem dX6_leastOf_34 : decode cX6_leastOf 34 = .ok (.if_icmp .ge 36, 3) := by decide +kernel
theorem dX6_leastOf_37 : decode cX6_leastOf 37 = .ok (.iload_n 2, 1) := by decide +kernel
theorem dX6_leastOf_38 : decode cX6_leastOf 38 = .ok (.iconst 1, 1) := by decide +kernel
theorem dX6_leastOf_39 : decode cX6_leastOf 39 = .ok (.iload 5, 2) := by decide +kernel
theorem dX6_leastOf_41 : decode cX6_leastOf 41 = .ok (.ishl, 1) := by decide +kernel
theorem dX6_leastOf_42 : decode cX6_leastOf 42 = .ok (.if_icmp .ne 18, 3) := by decide +kernel
theorem dX6_leastOf_45 : decode cX6_leastOf 45 = .ok (.aload_n 0, 1) := by decide +kernel
theorem dX6_leastOf_46 : decode cX6_leastOf 46 = .ok (.getfield 32, 3) := by decide +kernel
theorem dX6_leastOf_49 : decode cX6_leastOf 49 = .ok (.iload 5, 2) := by decide +kernel
theorem dX6_leastOf_51 : decode cX6_leastOf 51 = .ok (.iaload, 1) := by decide +kernel
theorem dX6_leastOf_52 : decode cX6_leastOf 52 = .ok (.iload_n 3, 1) := by decide +kernel
theorem dX6_leastOf_53 : decode cX6_leastOf 53 = .ok (.if_icmp .ne 7, 3) := by decide +kernel
theorem dX6_leastOf_56 : decode cX6_leastOf 56 = .ok (.iconst 0, 1) := by decide +kernel
theorem dX6_leastOf_57 : decode cX6_leastOf 57 = .ok (.goto 5, 3) := by decide +kernel
theorem dX6_leastOf_60 : decode cX6_leastOf 60 = .ok (.iload 4, 2) := by decide +kernel
theorem dX6_leastOf_62 : decode cX6_leastOf 62 = .ok (.istore 4, 2) := by decide +kernel
theorem dX6_leastOf_64 : decode cX6_leastOf 64 = .ok (.iinc 5 1, 3) := by decide +kernel
theorem dX6_leastOf_67 : decode cX6_leastOf 67 = .ok (.goto (-36), 3) := by decide +kernel
theorem dX6_leastOf_70 : decode cX6_leastOf 70 = .ok (.iconst 1, 1) := by decide +kernel
theorem dX6_leastOf_71 : decode cX6_leastOf 71 = .ok (.istore 5, 2) := by decide +kernel
theorem dX6_leastOf_73 : decode cX6_leastOf 73 = .ok (.iload 5, 2) := by decide +kernel
theorem dX6_leastOf_75 : decode cX6_leastOf 75 = .ok (.iload_n 2, 1) := by decide +kernel
theorem dX6_leastOf_76 : decode cX6_leastOf 76 = .ok (.if_icmp .ge 63, 3) := by decide +kernel
theorem dX6_leastOf_79 : decode cX6_leastOf 79 = .ok (.iload 5, 2) := by decide +kernel
theorem dX6_leastOf_81 : decode cX6_leastOf 81 = .ok (.iload_n 2, 1) := by decide +kernel
theorem dX6_leastOf_82 : decode cX6_leastOf 82 = .ok (.iconst (-1), 1) := by decide +kernel
theorem dX6_leastOf_83 : decode cX6_leastOf 83 = .ok (.ixor, 1) := by decide +kernel
theorem dX6_leastOf_84 : decode cX6_leastOf 84 = .ok (.iand, 1) := by decide +kernel
theorem dX6_leastOf_85 : decode cX6_leastOf 85 = .ok (.ifCond .ne 48, 3) := by decide +kernel
theorem dX6_leastOf_88 : decode cX6_leastOf 88 = .ok (.aload_n 0, 1) := by decide +kernel
theorem dX6_leastOf_89 : decode cX6_leastOf 89 = .ok (.getfield 35, 3) := by decide +kernel
theorem dX6_leastOf_92 : decode cX6_leastOf 92 = .ok (.bipush 36, 2) := by decide +kernel
theorem dX6_leastOf_94 : decode cX6_leastOf 94 = .ok (.iload 5, 2) := by decide +kernel
theorem dX6_leastOf_96 : decode cX6_leastOf 96 = .ok (.imul, 1) := by decide +kernel
theorem dX6_leastOf_97 : decode cX6_leastOf 97 = .ok (.iload_n 3, 1) := by decide +kernel
theorem dX6_leastOf_98 : decode cX6_leastOf 98 = .ok (.iadd, 1) := by decide +kernel
theorem dX6_leastOf_99 : decode cX6_leastOf 99 = .ok (.iaload, 1) := by decide +kernel
theorem dX6_leastOf_100 : decode cX6_leastOf 100 = .ok (.aload_n 0, 1) := by decide +kernel
theorem dX6_leastOf_101 : decode cX6_leastOf 101 = .ok (.getfield 35, 3) := by decide +kernel
theorem dX6_leastOf_104 : decode cX6_leastOf 104 = .ok (.bipush 36, 2) := by decide +kernel
theorem dX6_leastOf_106 : decode cX6_leastOf 106 = .ok (.iload_n 2, 1) := by decide +kernel
theorem dX6_leastOf_107 : decode cX6_leastOf 107 = .ok (.iload 5, 2) := by decide +kernel
theorem dX6_leastOf_109 : decode cX6_leastOf 109 = .ok (.isub, 1) := by decide +kernel
theorem dX6_leastOf_110 : decode cX6_leastOf 110 = .ok (.imul, 1) := by decide +kernel
theorem dX6_leastOf_111 : decode cX6_leastOf 111 = .ok (.iload_n 3, 1) := by decide +kernel
theorem dX6_leastOf_112 : decode cX6_leastOf 112 = .ok (.iadd, 1) := by decide +kernel
theorem dX6_leastOf_113 : decode cX6_leastOf 113 = .ok (.iaload, 1) := by decide +kernel
theorem dX6_leastOf_114 : decode cX6_leastOf 114 = .ok (.iadd, 1) := by decide +kernel
theorem dX6_leastOf_115 : decode cX6_leastOf 115 = .ok (.istore 6, 2) := by decide +kernel
theorem dX6_leastOf_117 : decode cX6_leastOf 117 = .ok (.iload 6, 2) := by decide +kernel
theorem dX6_leastOf_119 : decode cX6_leastOf 119 = .ok (.iload 4, 2) := by decide +kernel
theorem dX6_leastOf_121 : decode cX6_leastOf 121 = .ok (.if_icmp .ge 8, 3) := by decide +kernel
theorem dX6_leastOf_124 : decode cX6_leastOf 124 = .ok (.iload 6, 2) := by decide +kernel
theorem dX6_leastOf_126 : decode cX6_leastOf 126 = .ok (.goto 5, 3) := by decide +kernel
theorem dX6_leastOf_129 : decode cX6_leastOf 129 = .ok (.iload 4, 2) := by decide +kernel
theorem dX6_leastOf_131 : decode cX6_leastOf 131 = .ok (.istore 4, 2) := by decide +kernel
theorem dX6_leastOf_133 : decode cX6_leastOf 133 = .ok (.iinc 5 1, 3) := by decide +kernel
theorem dX6_leastOf_136 : decode cX6_leastOf 136 = .ok (.goto (-63), 3) := by decide +kernel
theorem dX6_leastOf_139 : decode cX6_leastOf 139 = .ok (.aload_n 0, 1) := by decide +kernel
theorem dX6_leastOf_140 : decode cX6_leastOf 140 = .ok (.getfield 35, 3) := by decide +kernel
theorem dX6_leastOf_143 : decode cX6_leastOf 143 = .ok (.bipush 36, 2) := by decide +kernel
theorem dX6_leastOf_145 : decode cX6_leastOf 145 = .ok (.iload_n 2, 1) := by decide +kernel
theorem dX6_leastOf_146 : decode cX6_leastOf 146 = .ok (.imul, 1) := by decide +kernel
theorem dX6_leastOf_147 : decode cX6_leastOf 147 = .ok (.iload_n 3, 1) := by decide +kernel
theorem dX6_leastOf_148 : decode cX6_leastOf 148 = .ok (.iadd, 1) := by decide +kernel
theorem dX6_leastOf_149 : decode cX6_leastOf 149 = .ok (.iload 4, 2) := by decide +kernel
theorem dX6_leastOf_151 : decode cX6_leastOf 151 = .ok (.iastore, 1) := by decide +kernel
theorem dX6_leastOf_152 : decode cX6_leastOf 152 = .ok (.iinc 3 1, 3) := by decide +kernel
theorem dX6_leastOf_155 : decode cX6_leastOf 155 = .ok (.goto (-137), 3) := by decide +kernel
theorem dX6_leastOf_158 : decode cX6_leastOf 158 = .ok (.aload_n 0, 1) := by decide +kernel
theorem dX6_leastOf_159 : decode cX6_leastOf 159 = .ok (.iload_n 2, 1) := by decide +kernel
theorem dX6_leastOf_160 : decode cX6_leastOf 160 = .ok (.invokevirtual 106, 3) := by decide +kernel
theorem dX6_leastOf_163 : decode cX6_leastOf 163 = .ok (.iinc 2 1, 3) := by decide +kernel
theorem dX6_leastOf_166 : decode cX6_leastOf 166 = .ok (.goto (-157), 3) := by decide +kernel
theorem dX6_leastOf_169 : decode cX6_leastOf 169 = .ok (.aload_n 0, 1) := by decide +kernel
theorem dX6_leastOf_170 : decode cX6_leastOf 170 = .ok (.getfield 35, 3) := by decide +kernel
theorem dX6_leastOf_173 : decode cX6_leastOf 173 = .ok (.bipush 36, 2) := by decide +kernel
theorem dX6_leastOf_175 : decode cX6_leastOf 175 = .ok (.iconst 1, 1) := by decide +kernel
theorem dX6_leastOf_176 : decode cX6_leastOf 176 = .ok (.iload_n 1, 1) := by decide +kernel
theorem dX6_leastOf_177 : decode cX6_leastOf 177 = .ok (.ishl, 1) := by decide +kernel
theorem dX6_leastOf_178 : decode cX6_leastOf 178 = .ok (.iconst 1, 1) := by decide +kernel
theorem dX6_leastOf_179 : decode cX6_leastOf 179 = .ok (.isub, 1) := by decide +kernel
theorem dX6_leastOf_180 : decode cX6_leastOf 180 = .ok (.imul, 1) := by decide +kernel
theorem dX6_leastOf_181 : decode cX6_leastOf 181 = .ok (.aload_n 0, 1) := by decide +kernel
theorem dX6_leastOf_182 : decode cX6_leastOf 182 = .ok (.getfield 32, 3) := by decide +kernel
theorem dX6_leastOf_185 : decode cX6_leastOf 185 = .ok (.iconst 0, 1) := by decide +kernel
theorem dX6_leastOf_186 : decode cX6_leastOf 186 = .ok (.iaload, 1) := by decide +kernel
theorem dX6_leastOf_187 : decode cX6_leastOf 187 = .ok (.iadd, 1) := by decide +kernel
theorem dX6_leastOf_188 : decode cX6_leastOf 188 = .ok (.iaload, 1) := by decide +kernel
theorem dX6_leastOf_189 : decode cX6_leastOf 189 = .ok (.ireturn, 1) := by decide +kernel
set_option maxRecDepth 20000 in
theorem ggX6_leastNow_X6_leastOf : GoodIn wsX6_leastNow wsX6_leastOf := goodIn_r _ [8, 9, 2, 10, 11, 12, 13, 7, 14, 15, 16, 17, 18, 19, 20, 21, 22, 23, 24, 25, 26, 27, 28, 29, 30, 31, 32, 33, 34, 35, 36, 37, 38, 39, 40, 41, 42, 43, 44, 45, 46] (by decide +kernel) (by decide +kernel)
set_option maxRecDepth 20000 in
theorem gX6_leastNow_X6_leastOf : GoodIn wsX6_leastNow (wsV RX6 109 RX6 yX6_leastOf wsX6_leastOf) := goodIn_app (goodIn_of _ (by decide +kernel)) ggX6_leastNow_X6_leastOf
theorem dX6_leastNow_0 : decode cX6_leastNow 0 = .ok (.iconst 0, 1) := by decide +kernel
theorem dX6_leastNow_1 : decode cX6_leastNow 1 = .ok (.istore_n 1, 1) := by decide +kernel
theorem dX6_leastNow_2 : decode cX6_leastNow 2 = .ok (.iload_n 1, 1) := by decide +kernel
theorem dX6_leastNow_3 : decode cX6_leastNow 3 = .ok (.aload_n 0, 1) := by decide +kernel
theorem dX6_leastNow_4 : decode cX6_leastNow 4 = .ok (.getfield 100, 3) := by decide +kernel
theorem dX6_leastNow_7 : decode cX6_leastNow 7 = .ok (.if_icmp .ge 21, 3) := by decide +kernel
theorem dX6_leastNow_10 : decode cX6_leastNow 10 = .ok (.aload_n 0, 1) := by decide +kernel
theorem dX6_leastNow_11 : decode cX6_leastNow 11 = .ok (.getfield 32, 3) := by decide +kernel
theorem dX6_leastNow_14 : decode cX6_leastNow 14 = .ok (.iload_n 1, 1) := by decide +kernel
theorem dX6_leastNow_15 : decode cX6_leastNow 15 = .ok (.aload_n 0, 1) := by decide +kernel
theorem dX6_leastNow_16 : decode cX6_leastNow 16 = .ok (.getfield 16, 3) := by decide +kernel
theorem dX6_leastNow_19 : decode cX6_leastNow 19 = .ok (.iload_n 1, 1) := by decide +kernel
theorem dX6_leastNow_20 : decode cX6_leastNow 20 = .ok (.iaload, 1) := by decide +kernel
theorem dX6_leastNow_21 : decode cX6_leastNow 21 = .ok (.iastore, 1) := by decide +kernel
theorem dX6_leastNow_22 : decode cX6_leastNow 22 = .ok (.iinc 1 1, 3) := by decide +kernel
theorem dX6_leastNow_25 : decode cX6_leastNow 25 = .ok (.goto (-23), 3) := by decide +kernel
theorem dX6_leastNow_28 : decode cX6_leastNow 28 = .ok (.aload_n 0, 1) := by decide +kernel
theorem dX6_leastNow_29 : decode cX6_leastNow 29 = .ok (.aload_n 0, 1) := by decide +kernel
theorem dX6_leastNow_30 : decode cX6_leastNow 30 = .ok (.getfield 100, 3) := by decide +kernel
theorem dX6_leastNow_33 : decode cX6_leastNow 33 = .ok (.invokevirtual 109, 3) := by decide +kernel
theorem dX6_leastNow_36 : decode cX6_leastNow 36 = .ok (.ireturn, 1) := by decide +kernel
set_option maxRecDepth 20000 in
theorem ggX6_least_X6_leastNow : GoodIn wsX6_least wsX6_leastNow := goodIn_r _ [6, 7, 8, 9, 10, 11, 12, 5, 13, 14, 15, 16, 17, 18, 19, 20, 21, 22, 23, 24, 25, 26, 27, 28, 29, 30, 31, 32, 33, 34, 35, 36, 37, 38, 39, 40, 41, 42, 43, 44, 45, 46, 47, 48, 49, 50, 51] (by decide +kernel) (by decide +kernel)
set_option maxRecDepth 20000 in
theorem gX6_least_X6_leastNow : GoodIn wsX6_least (wsV RX6 112 RX6 yX6_leastNow wsX6_leastNow) := goodIn_app (goodIn_of _ (by decide +kernel)) ggX6_least_X6_leastNow
theorem dX6_least_0 : decode cX6_least 0 = .ok (.aload_n 0, 1) := by decide +kernel
theorem dX6_least_1 : decode cX6_least 1 = .ok (.iconst 0, 1) := by decide +kernel
theorem dX6_least_2 : decode cX6_least 2 = .ok (.putfield 57, 3) := by decide +kernel
theorem dX6_least_5 : decode cX6_least 5 = .ok (.aload_n 0, 1) := by decide +kernel
theorem dX6_least_6 : decode cX6_least 6 = .ok (.invokevirtual 112, 3) := by decide +kernel
theorem dX6_least_9 : decode cX6_least 9 = .ok (.ireturn, 1) := by decide +kernel
set_option maxRecDepth 20000 in
theorem ggX6_leastAnew_X6_leastNow : GoodIn wsX6_leastAnew wsX6_leastNow := goodIn_r _ [7, 2, 8, 9, 10, 11, 12, 6, 13, 14, 15, 16, 17, 18, 19, 20, 21, 22, 23, 24, 25, 26, 27, 28, 29, 30, 31, 32, 33, 34, 35, 36, 37, 38, 39, 40, 41, 42, 43, 44, 45, 46, 47, 48, 49, 50, 51] (by decide +kernel) (by decide +kernel)
set_option maxRecDepth 20000 in
theorem gX6_leastAnew_X6_leastNow : GoodIn wsX6_leastAnew (wsV RX6 112 RX6 yX6_leastNow wsX6_leastNow) := goodIn_app (goodIn_of _ (by decide +kernel)) ggX6_leastAnew_X6_leastNow
theorem dX6_leastAnew_0 : decode cX6_leastAnew 0 = .ok (.aload_n 0, 1) := by decide +kernel
theorem dX6_leastAnew_1 : decode cX6_leastAnew 1 = .ok (.iconst 0, 1) := by decide +kernel
theorem dX6_leastAnew_2 : decode cX6_leastAnew 2 = .ok (.putfield 57, 3) := by decide +kernel
theorem dX6_leastAnew_5 : decode cX6_leastAnew 5 = .ok (.aload_n 0, 1) := by decide +kernel
theorem dX6_leastAnew_6 : decode cX6_leastAnew 6 = .ok (.getfield 100, 3) := by decide +kernel
theorem dX6_leastAnew_9 : decode cX6_leastAnew 9 = .ok (.iconst 4, 1) := by decide +kernel
theorem dX6_leastAnew_10 : decode cX6_leastAnew 10 = .ok (.if_icmp .le 7, 3) := by decide +kernel
theorem dX6_leastAnew_13 : decode cX6_leastAnew 13 = .ok (.iconst (-1), 1) := by decide +kernel
theorem dX6_leastAnew_14 : decode cX6_leastAnew 14 = .ok (.goto 7, 3) := by decide +kernel
theorem dX6_leastAnew_17 : decode cX6_leastAnew 17 = .ok (.aload_n 0, 1) := by decide +kernel
theorem dX6_leastAnew_18 : decode cX6_leastAnew 18 = .ok (.invokevirtual 112, 3) := by decide +kernel
theorem dX6_leastAnew_21 : decode cX6_leastAnew 21 = .ok (.ireturn, 1) := by decide +kernel
set_option maxRecDepth 20000 in
theorem ggX6_treeOfPairs_X6_apartFrom : GoodIn wsX6_treeOfPairs wsX6_apartFrom := goodIn_r _ [8, 9, 10, 11, 12, 7, 13, 2, 14, 15, 16, 17, 18, 19, 20, 21, 22, 23, 24, 25, 26, 27, 28, 29, 30, 31, 32, 33, 34, 35, 36, 37, 38, 39, 40, 41, 42, 43, 44] (by decide +kernel) (by decide +kernel)
set_option maxRecDepth 20000 in
theorem gX6_treeOfPairs_X6_apartFrom : GoodIn wsX6_treeOfPairs (wsV RX6 96 RX6 yX6_apartFrom wsX6_apartFrom) := goodIn_app (goodIn_of _ (by decide +kernel)) ggX6_treeOfPairs_X6_apartFrom
theorem dX6_treeOfPairs_0 : decode cX6_treeOfPairs 0 = .ok (.iconst 1, 1) := by decide +kernel
theorem dX6_treeOfPairs_1 : decode cX6_treeOfPairs 1 = .ok (.istore_n 1, 1) := by decide +kernel
theorem dX6_treeOfPairs_2 : decode cX6_treeOfPairs 2 = .ok (.iconst 0, 1) := by decide +kernel
theorem dX6_treeOfPairs_3 : decode cX6_treeOfPairs 3 = .ok (.istore_n 2, 1) := by decide +kernel
theorem dX6_treeOfPairs_4 : decode cX6_treeOfPairs 4 = .ok (.iconst 1, 1) := by decide +kernel
theorem dX6_treeOfPairs_5 : decode cX6_treeOfPairs 5 = .ok (.istore_n 3, 1) := by decide +kernel
theorem dX6_treeOfPairs_6 : decode cX6_treeOfPairs 6 = .ok (.iload_n 3, 1) := by decide +kernel
theorem dX6_treeOfPairs_7 : decode cX6_treeOfPairs 7 = .ok (.aload_n 0, 1) := by decide +kernel
theorem dX6_treeOfPairs_8 : decode cX6_treeOfPairs 8 = .ok (.getfield 100, 3) := by decide +kernel
theorem dX6_treeOfPairs_11 : decode cX6_treeOfPairs 11 = .ok (.if_icmp .ge 157, 3) := by decide +kernel
theorem dX6_treeOfPairs_14 : decode cX6_treeOfPairs 14 = .ok (.iconst (-1), 1) := by decide +kernel
theorem dX6_treeOfPairs_15 : decode cX6_treeOfPairs 15 = .ok (.istore 4, 2) := by decide +kernel
theorem dX6_treeOfPairs_17 : decode cX6_treeOfPairs 17 = .ok (.ldc 85, 2) := by decide +kernel
theorem dX6_treeOfPairs_19 : decode cX6_treeOfPairs 19 = .ok (.istore 5, 2) := by decide +kernel
theorem dX6_treeOfPairs_21 : decode cX6_treeOfPairs 21 = .ok (.iconst 0, 1) := by decide +kernel
theorem dX6_treeOfPairs_22 : decode cX6_treeOfPairs 22 = .ok (.istore 6, 2) := by decide +kernel
theorem dX6_treeOfPairs_24 : decode cX6_treeOfPairs 24 = .ok (.iload 6, 2) := by decide +kernel
theorem dX6_treeOfPairs_26 : decode cX6_treeOfPairs 26 = .ok (.aload_n 0, 1) := by decide +kernel
theorem dX6_treeOfPairs_27 : decode cX6_treeOfPairs 27 = .ok (.getfield 100, 3) := by decide +kernel
theorem dX6_treeOfPairs_30 : decode cX6_treeOfPairs 30 = .ok (.aload_n 0, 1) := by decide +kernel
theorem dX6_treeOfPairs_31 : decode cX6_treeOfPairs 31 = .ok (.getfield 100, 3) := by decide +kernel
theorem dX6_treeOfPairs_34 : decode cX6_treeOfPairs 34 = .ok (.imul, 1) := by decide +kernel
theorem dX6_treeOfPairs_35 : decode cX6_treeOfPairs 35 = .ok (.if_icmp .ge 115, 3) := by decide +kernel
theorem dX6_treeOfPairs_38 : decode cX6_treeOfPairs 38 = .ok (.iload 6, 2) := by decide +kernel
theorem dX6_treeOfPairs_40 : decode cX6_treeOfPairs 40 = .ok (.aload_n 0, 1) := by decide +kernel
theorem dX6_treeOfPairs_41 : decode cX6_treeOfPairs 41 = .ok (.getfield 100, 3) := by decide +kernel
theorem dX6_treeOfPairs_44 : decode cX6_treeOfPairs 44 = .ok (.idiv, 1) := by decide +kernel
theorem dX6_treeOfPairs_45 : decode cX6_treeOfPairs 45 = .ok (.istore 7, 2) := by decide +kernel
theorem dX6_treeOfPairs_47 : decode cX6_treeOfPairs 47 = .ok (.iload 6, 2) := by decide +kernel
theorem dX6_treeOfPairs_49 : decode cX6_treeOfPairs 49 = .ok (.aload_n 0, 1) := by decide +kernel
theorem dX6_treeOfPairs_50 : decode cX6_treeOfPairs 50 = .ok (.getfield 100, 3) := by decide +kernel
theorem dX6_treeOfPairs_53 : decode cX6_treeOfPairs 53 = .ok (.irem, 1) := by decide +kernel
theorem dX6_treeOfPairs_54 : decode cX6_treeOfPairs 54 = .ok (.istore 8, 2) := by decide +kernel
theorem dX6_treeOfPairs_56 : decode cX6_treeOfPairs 56 = .ok (.iload_n 1, 1) := by decide +kernel
theorem dX6_treeOfPairs_57 : decode cX6_treeOfPairs 57 = .ok (.iload 7, 2) := by decide +kernel
theorem dX6_treeOfPairs_59 : decode cX6_treeOfPairs 59 = .ok (.ishr, 1) := by decide +kernel
theorem dX6_treeOfPairs_60 : decode cX6_treeOfPairs 60 = .ok (.iconst 1, 1) := by decide +kernel
theorem dX6_treeOfPairs_61 : decode cX6_treeOfPairs 61 = .ok (.iand, 1) := by decide +kernel
theorem dX6_treeOfPairs_62 : decode cX6_treeOfPairs 62 = .ok (.iconst 1, 1) := by decide +kernel
theorem dX6_treeOfPairs_63 : decode cX6_treeOfPairs 63 = .ok (.if_icmp .ne 16, 3) := by decide +kernel
theorem dX6_treeOfPairs_66 : decode cX6_treeOfPairs 66 = .ok (.iload_n 1, 1) := by decide +kernel
theorem dX6_treeOfPairs_67 : decode cX6_treeOfPairs 67 = .ok (.iload 8, 2) := by decide +kernel
theorem dX6_treeOfPairs_69 : decode cX6_treeOfPairs 69 = .ok (.ishr, 1) := by decide +kernel
theorem dX6_treeOfPairs_70 : decode cX6_treeOfPairs 70 = .ok (.iconst 1, 1) := by decide +kernel
theorem dX6_treeOfPairs_71 : decode cX6_treeOfPairs 71 = .ok (.iand, 1) := by decide +kernel
theorem dX6_treeOfPairs_72 : decode cX6_treeOfPairs 72 = .ok (.ifCond .ne 7, 3) := by decide +kernel
theorem dX6_treeOfPairs_75 : decode cX6_treeOfPairs 75 = .ok (.iconst 1, 1) := by decide +kernel
theorem dX6_treeOfPairs_76 : decode cX6_treeOfPairs 76 = .ok (.goto 4, 3) := by decide +kernel
theorem dX6_treeOfPairs_79 : decode cX6_treeOfPairs 79 = .ok (.iconst 0, 1) := by decide +kernel
theorem dX6_treeOfPairs_80 : decode cX6_treeOfPairs 80 = .ok (.istore 9, 2) := by decide +kernel
theorem dX6_treeOfPairs_82 : decode cX6_treeOfPairs 82 = .ok (.iload 9, 2) := by decide +kernel
theorem dX6_treeOfPairs_84 : decode cX6_treeOfPairs 84 = .ok (.ifCond .eq 24, 3) := by decide +kernel
theorem dX6_treeOfPairs_87 : decode cX6_treeOfPairs 87 = .ok (.aload_n 0, 1) := by decide +kernel
theorem dX6_treeOfPairs_88 : decode cX6_treeOfPairs 88 = .ok (.aload_n 0, 1) := by decide +kernel
theorem dX6_treeOfPairs_89 : decode cX6_treeOfPairs 89 = .ok (.getfield 16, 3) := by decide +kernel
theorem dX6_treeOfPairs_92 : decode cX6_treeOfPairs 92 = .ok (.iload 7, 2) := by decide +kernel
theorem dX6_treeOfPairs_94 : decode cX6_treeOfPairs 94 = .ok (.iaload, 1) := by decide +kernel
theorem dX6_treeOfPairs_95 : decode cX6_treeOfPairs 95 = .ok (.aload_n 0, 1) := by decide +kernel
theorem dX6_treeOfPairs_96 : decode cX6_treeOfPairs 96 = .ok (.getfield 16, 3) := by decide +kernel
theorem dX6_treeOfPairs_99 : decode cX6_treeOfPairs 99 = .ok (.iload 8, 2) := by decide +kernel
theorem dX6_treeOfPairs_101 : decode cX6_treeOfPairs 101 = .ok (.iaload, 1) := by decide +kernel
theorem dX6_treeOfPairs_102 : decode cX6_treeOfPairs 102 = .ok (.invokevirtual 96, 3) := by decide +kernel
theorem dX6_treeOfPairs_105 : decode cX6_treeOfPairs 105 = .ok (.goto 5, 3) := by decide +kernel
theorem dX6_treeOfPairs_108 : decode cX6_treeOfPairs 108 = .ok (.ldc 85, 2) := by decide +kernel
theorem dX6_treeOfPairs_110 : decode cX6_treeOfPairs 110 = .ok (.istore 10, 2) := by decide +kernel
theorem dX6_treeOfPairs_112 : decode cX6_treeOfPairs 112 = .ok (.iload 10, 2) := by decide +kernel
theorem dX6_treeOfPairs_114 : decode cX6_treeOfPairs 114 = .ok (.iload 5, 2) := by decide +kernel
theorem dX6_treeOfPairs_116 : decode cX6_treeOfPairs 116 = .ok (.if_icmp .ge 8, 3) := by decide +kernel
theorem dX6_treeOfPairs_119 : decode cX6_treeOfPairs 119 = .ok (.iload 8, 2) := by decide +kernel
theorem dX6_treeOfPairs_121 : decode cX6_treeOfPairs 121 = .ok (.goto 5, 3) := by decide +kernel
theorem dX6_treeOfPairs_124 : decode cX6_treeOfPairs 124 = .ok (.iload 4, 2) := by decide +kernel
theorem dX6_treeOfPairs_126 : decode cX6_treeOfPairs 126 = .ok (.istore 4, 2) := by decide +kernel
theorem dX6_treeOfPairs_128 : decode cX6_treeOfPairs 128 = .ok (.iload 10, 2) := by decide +kernel
theorem dX6_treeOfPairs_130 : decode cX6_treeOfPairs 130 = .ok (.iload 5, 2) := by decide +kernel
theorem dX6_treeOfPairs_132 : decode cX6_treeOfPairs 132 = .ok (.if_icmp .ge 8, 3) := by decide +kernel
theorem dX6_treeOfPairs_135 : decode cX6_treeOfPairs 135 = .ok (.iload 10, 2) := by decide +kernel
theorem dX6_treeOfPairs_137 : decode cX6_treeOfPairs 137 = .ok (.goto 5, 3) := by decide +kernel
theorem dX6_treeOfPairs_140 : decode cX6_treeOfPairs 140 = .ok (.iload 5, 2) := by decide +kernel
theorem dX6_treeOfPairs_142 : decode cX6_treeOfPairs 142 = .ok (.istore 5, 2) := by decide +kernel
theorem dX6_treeOfPairs_144 : decode cX6_treeOfPairs 144 = .ok (.iinc 6 1, 3) := by decide +kernel
theorem dX6_treeOfPairs_147 : decode cX6_treeOfPairs 147 = .ok (.goto (-123), 3) := by decide +kernel
theorem dX6_treeOfPairs_150 : decode cX6_treeOfPairs 150 = .ok (.iload_n 1, 1) := by decide +kernel
theorem dX6_treeOfPairs_151 : decode cX6_treeOfPairs 151 = .ok (.iconst 1, 1) := by decide +kernel
theorem dX6_treeOfPairs_152 : decode cX6_treeOfPairs 152 = .ok (.iload 4, 2) := by decide +kernel
theorem dX6_treeOfPairs_154 : decode cX6_treeOfPairs 154 = .ok (.ishl, 1) := by decide +kernel
theorem dX6_treeOfPairs_155 : decode cX6_treeOfPairs 155 = .ok (.ior, 1) := by decide +kernel
theorem dX6_treeOfPairs_156 : decode cX6_treeOfPairs 156 = .ok (.istore_n 1, 1) := by decide +kernel
theorem dX6_treeOfPairs_157 : decode cX6_treeOfPairs 157 = .ok (.iload_n 2, 1) := by decide +kernel
theorem dX6_treeOfPairs_158 : decode cX6_treeOfPairs 158 = .ok (.iload 5, 2) := by decide +kernel
theorem dX6_treeOfPairs_160 : decode cX6_treeOfPairs 160 = .ok (.iadd, 1) := by decide +kernel
theorem dX6_treeOfPairs_161 : decode cX6_treeOfPairs 161 = .ok (.istore_n 2, 1) := by decide +kernel
theorem dX6_treeOfPairs_162 : decode cX6_treeOfPairs 162 = .ok (.iinc 3 1, 3) := by decide +kernel
theorem dX6_treeOfPairs_165 : decode cX6_treeOfPairs 165 = .ok (.goto (-159), 3) := by decide +kernel
theorem dX6_treeOfPairs_168 : decode cX6_treeOfPairs 168 = .ok (.iload_n 2, 1) := by decide +kernel
theorem dX6_treeOfPairs_169 : decode cX6_treeOfPairs 169 = .ok (.ireturn, 1) := by decide +kernel
set_option maxRecDepth 20000 in
theorem ggX6_boundNow_X6_treeOfPairs : GoodIn wsX6_boundNow wsX6_treeOfPairs := goodIn_r _ [7, 1, 8, 2, 9, 10, 11, 6, 12, 13, 14, 15, 16, 17, 18, 19, 20, 21, 22, 23, 24, 25, 26, 27, 28, 29, 30, 31, 32, 33, 34, 35, 36, 37, 38, 39, 40, 41, 42, 43, 44, 45, 46, 47, 48] (by decide +kernel) (by decide +kernel)
set_option maxRecDepth 20000 in
theorem gX6_boundNow_X6_treeOfPairs : GoodIn wsX6_boundNow (wsV RX6 115 RX6 yX6_treeOfPairs wsX6_treeOfPairs) := goodIn_app (goodIn_of _ (by decide +kernel)) ggX6_boundNow_X6_treeOfPairs
set_option maxRecDepth 20000 in
theorem ggX6_boundNow_X6_apartFrom : GoodIn wsX6_boundNow wsX6_apartFrom := goodIn_r _ [12, 13, 14, 15, 16, 6, 17, 8, 18, 19, 20, 21, 22, 23, 24, 25, 26, 27, 28, 29, 30, 31, 32, 33, 34, 35, 36, 37, 38, 39, 40, 41, 42, 43, 44, 45, 46, 47, 48] (by decide +kernel) (by decide +kernel)
set_option maxRecDepth 20000 in
theorem gX6_boundNow_X6_apartFrom : GoodIn wsX6_boundNow (wsV RX6 96 RX6 yX6_apartFrom wsX6_apartFrom) := goodIn_app (goodIn_of _ (by decide +kernel)) ggX6_boundNow_X6_apartFrom
theorem dX6_boundNow_0 : decode cX6_boundNow 0 = .ok (.aload_n 0, 1) := by decide +kernel
theorem dX6_boundNow_1 : decode cX6_boundNow 1 = .ok (.getfield 100, 3) := by decide +kernel
theorem dX6_boundNow_4 : decode cX6_boundNow 4 = .ok (.iconst 2, 1) := by decide +kernel
theorem dX6_boundNow_5 : decode cX6_boundNow 5 = .ok (.if_icmp .ge 7, 3) := by decide +kernel
theorem dX6_boundNow_8 : decode cX6_boundNow 8 = .ok (.iconst 0, 1) := by decide +kernel
theorem dX6_boundNow_9 : decode cX6_boundNow 9 = .ok (.goto 11, 3) := by decide +kernel
theorem dX6_boundNow_12 : decode cX6_boundNow 12 = .ok (.aload_n 0, 1) := by decide +kernel
theorem dX6_boundNow_13 : decode cX6_boundNow 13 = .ok (.invokevirtual 115, 3) := by decide +kernel
theorem dX6_boundNow_16 : decode cX6_boundNow 16 = .ok (.iconst 1, 1) := by decide +kernel
theorem dX6_boundNow_17 : decode cX6_boundNow 17 = .ok (.iadd, 1) := by decide +kernel
theorem dX6_boundNow_18 : decode cX6_boundNow 18 = .ok (.iconst 2, 1) := by decide +kernel
theorem dX6_boundNow_19 : decode cX6_boundNow 19 = .ok (.idiv, 1) := by decide +kernel
theorem dX6_boundNow_20 : decode cX6_boundNow 20 = .ok (.istore_n 1, 1) := by decide +kernel
theorem dX6_boundNow_21 : decode cX6_boundNow 21 = .ok (.iconst 0, 1) := by decide +kernel
theorem dX6_boundNow_22 : decode cX6_boundNow 22 = .ok (.istore_n 2, 1) := by decide +kernel
theorem dX6_boundNow_23 : decode cX6_boundNow 23 = .ok (.iload_n 2, 1) := by decide +kernel
theorem dX6_boundNow_24 : decode cX6_boundNow 24 = .ok (.aload_n 0, 1) := by decide +kernel
theorem dX6_boundNow_25 : decode cX6_boundNow 25 = .ok (.getfield 100, 3) := by decide +kernel
theorem dX6_boundNow_28 : decode cX6_boundNow 28 = .ok (.aload_n 0, 1) := by decide +kernel
theorem dX6_boundNow_29 : decode cX6_boundNow 29 = .ok (.getfield 100, 3) := by decide +kernel
theorem dX6_boundNow_32 : decode cX6_boundNow 32 = .ok (.imul, 1) := by decide +kernel
theorem dX6_boundNow_33 : decode cX6_boundNow 33 = .ok (.aload_n 0, 1) := by decide +kernel
theorem dX6_boundNow_34 : decode cX6_boundNow 34 = .ok (.getfield 100, 3) := by decide +kernel
theorem dX6_boundNow_37 : decode cX6_boundNow 37 = .ok (.imul, 1) := by decide +kernel
theorem dX6_boundNow_38 : decode cX6_boundNow 38 = .ok (.if_icmp .ge 117, 3) := by decide +kernel
theorem dX6_boundNow_41 : decode cX6_boundNow 41 = .ok (.aload_n 0, 1) := by decide +kernel
theorem dX6_boundNow_42 : decode cX6_boundNow 42 = .ok (.getfield 16, 3) := by decide +kernel
theorem dX6_boundNow_45 : decode cX6_boundNow 45 = .ok (.iload_n 2, 1) := by decide +kernel
theorem dX6_boundNow_46 : decode cX6_boundNow 46 = .ok (.aload_n 0, 1) := by decide +kernel
theorem dX6_boundNow_47 : decode cX6_boundNow 47 = .ok (.getfield 100, 3) := by decide +kernel
theorem dX6_boundNow_50 : decode cX6_boundNow 50 = .ok (.irem, 1) := by decide +kernel
theorem dX6_boundNow_51 : decode cX6_boundNow 51 = .ok (.iaload, 1) := by decide +kernel
theorem dX6_boundNow_52 : decode cX6_boundNow 52 = .ok (.istore_n 3, 1) := by decide +kernel
theorem dX6_boundNow_53 : decode cX6_boundNow 53 = .ok (.aload_n 0, 1) := by decide +kernel
theorem dX6_boundNow_54 : decode cX6_boundNow 54 = .ok (.getfield 16, 3) := by decide +kernel
theorem dX6_boundNow_57 : decode cX6_boundNow 57 = .ok (.iload_n 2, 1) := by decide +kernel
theorem dX6_boundNow_58 : decode cX6_boundNow 58 = .ok (.aload_n 0, 1) := by decide +kernel
theorem dX6_boundNow_59 : decode cX6_boundNow 59 = .ok (.getfield 100, 3) := by decide +kernel
theorem dX6_boundNow_62 : decode cX6_boundNow 62 = .ok (.idiv, 1) := by decide +kernel
theorem dX6_boundNow_63 : decode cX6_boundNow 63 = .ok (.aload_n 0, 1) := by decide +kernel
theorem dX6_boundNow_64 : decode cX6_boundNow 64 = .ok (.getfield 100, 3) := by decide +kernel
theorem dX6_boundNow_67 : decode cX6_boundNow 67 = .ok (.irem, 1) := by decide +kernel
theorem dX6_boundNow_68 : decode cX6_boundNow 68 = .ok (.iaload, 1) := by decide +kernel
theorem dX6_boundNow_69 : decode cX6_boundNow 69 = .ok (.istore 4, 2) := by decide +kernel
theorem dX6_boundNow_71 : decode cX6_boundNow 71 = .ok (.aload_n 0, 1) := by decide +kernel
theorem dX6_boundNow_72 : decode cX6_boundNow 72 = .ok (.getfield 16, 3) := by decide +kernel
theorem dX6_boundNow_75 : decode cX6_boundNow 75 = .ok (.iload_n 2, 1) := by decide +kernel
theorem dX6_boundNow_76 : decode cX6_boundNow 76 = .ok (.aload_n 0, 1) := by decide +kernel
theorem dX6_boundNow_77 : decode cX6_boundNow 77 = .ok (.getfield 100, 3) := by decide +kernel
theorem dX6_boundNow_80 : decode cX6_boundNow 80 = .ok (.idiv, 1) := by decide +kernel
theorem dX6_boundNow_81 : decode cX6_boundNow 81 = .ok (.aload_n 0, 1) := by decide +kernel
theorem dX6_boundNow_82 : decode cX6_boundNow 82 = .ok (.getfield 100, 3) := by decide +kernel
theorem dX6_boundNow_85 : decode cX6_boundNow 85 = .ok (.idiv, 1) := by decide +kernel
theorem dX6_boundNow_86 : decode cX6_boundNow 86 = .ok (.iaload, 1) := by decide +kernel
theorem dX6_boundNow_87 : decode cX6_boundNow 87 = .ok (.istore 5, 2) := by decide +kernel
theorem dX6_boundNow_89 : decode cX6_boundNow 89 = .ok (.aload_n 0, 1) := by decide +kernel
theorem dX6_boundNow_90 : decode cX6_boundNow 90 = .ok (.iload_n 3, 1) := by decide +kernel
theorem dX6_boundNow_91 : decode cX6_boundNow 91 = .ok (.iload 4, 2) := by decide +kernel
theorem dX6_boundNow_93 : decode cX6_boundNow 93 = .ok (.invokevirtual 96, 3) := by decide +kernel
theorem dX6_boundNow_96 : decode cX6_boundNow 96 = .ok (.istore 6, 2) := by decide +kernel
theorem dX6_boundNow_98 : decode cX6_boundNow 98 = .ok (.iload 6, 2) := by decide +kernel
theorem dX6_boundNow_100 : decode cX6_boundNow 100 = .ok (.aload_n 0, 1) := by decide +kernel
theorem dX6_boundNow_101 : decode cX6_boundNow 101 = .ok (.iload 4, 2) := by decide +kernel
theorem dX6_boundNow_103 : decode cX6_boundNow 103 = .ok (.iload 5, 2) := by decide +kernel
theorem dX6_boundNow_105 : decode cX6_boundNow 105 = .ok (.invokevirtual 96, 3) := by decide +kernel
theorem dX6_boundNow_108 : decode cX6_boundNow 108 = .ok (.iadd, 1) := by decide +kernel
theorem dX6_boundNow_109 : decode cX6_boundNow 109 = .ok (.aload_n 0, 1) := by decide +kernel
theorem dX6_boundNow_110 : decode cX6_boundNow 110 = .ok (.iload 5, 2) := by decide +kernel
theorem dX6_boundNow_112 : decode cX6_boundNow 112 = .ok (.iload_n 3, 1) := by decide +kernel
theorem dX6_boundNow_113 : decode cX6_boundNow 113 = .ok (.invokevirtual 96, 3) := by decide +kernel
theorem dX6_boundNow_116 : decode cX6_boundNow 116 = .ok (.iadd, 1) := by decide +kernel
theorem dX6_boundNow_117 : decode cX6_boundNow 117 = .ok (.iconst 1, 1) := by decide +kernel
theorem dX6_boundNow_118 : decode cX6_boundNow 118 = .ok (.iadd, 1) := by decide +kernel
theorem dX6_boundNow_119 : decode cX6_boundNow 119 = .ok (.iconst 2, 1) := by decide +kernel
theorem dX6_boundNow_120 : decode cX6_boundNow 120 = .ok (.idiv, 1) := by decide +kernel
theorem dX6_boundNow_121 : decode cX6_boundNow 121 = .ok (.istore 7, 2) := by decide +kernel
theorem dX6_boundNow_123 : decode cX6_boundNow 123 = .ok (.iload 6, 2) := by decide +kernel
theorem dX6_boundNow_125 : decode cX6_boundNow 125 = .ok (.iload_n 1, 1) := by decide +kernel
theorem dX6_boundNow_126 : decode cX6_boundNow 126 = .ok (.if_icmp .le 8, 3) := by decide +kernel
theorem dX6_boundNow_129 : decode cX6_boundNow 129 = .ok (.iload 6, 2) := by decide +kernel
theorem dX6_boundNow_131 : decode cX6_boundNow 131 = .ok (.goto 4, 3) := by decide +kernel
theorem dX6_boundNow_134 : decode cX6_boundNow 134 = .ok (.iload_n 1, 1) := by decide +kernel
theorem dX6_boundNow_135 : decode cX6_boundNow 135 = .ok (.istore_n 1, 1) := by decide +kernel
theorem dX6_boundNow_136 : decode cX6_boundNow 136 = .ok (.iload 7, 2) := by decide +kernel
theorem dX6_boundNow_138 : decode cX6_boundNow 138 = .ok (.iload_n 1, 1) := by decide +kernel
theorem dX6_boundNow_139 : decode cX6_boundNow 139 = .ok (.if_icmp .le 8, 3) := by decide +kernel
theorem dX6_boundNow_142 : decode cX6_boundNow 142 = .ok (.iload 7, 2) := by decide +kernel
theorem dX6_boundNow_144 : decode cX6_boundNow 144 = .ok (.goto 4, 3) := by decide +kernel
theorem dX6_boundNow_147 : decode cX6_boundNow 147 = .ok (.iload_n 1, 1) := by decide +kernel
theorem dX6_boundNow_148 : decode cX6_boundNow 148 = .ok (.istore_n 1, 1) := by decide +kernel
theorem dX6_boundNow_149 : decode cX6_boundNow 149 = .ok (.iinc 2 1, 3) := by decide +kernel
theorem dX6_boundNow_152 : decode cX6_boundNow 152 = .ok (.goto (-129), 3) := by decide +kernel
theorem dX6_boundNow_155 : decode cX6_boundNow 155 = .ok (.iload_n 1, 1) := by decide +kernel
theorem dX6_boundNow_156 : decode cX6_boundNow 156 = .ok (.ireturn, 1) := by decide +kernel
set_option maxRecDepth 20000 in
theorem ggX6_bound_X6_boundNow : GoodIn wsX6_bound wsX6_boundNow := goodIn_r _ [6, 7, 8, 9, 10, 11, 5, 12, 13, 14, 15, 16, 17, 18, 19, 20, 21, 22, 23, 24, 25, 26, 27, 28, 29, 30, 31, 32, 33, 34, 35, 36, 37, 38, 39, 40, 41, 42, 43, 44, 45, 46, 47, 48, 49, 50, 51, 52, 53] (by decide +kernel) (by decide +kernel)
set_option maxRecDepth 20000 in
theorem gX6_bound_X6_boundNow : GoodIn wsX6_bound (wsV RX6 118 RX6 yX6_boundNow wsX6_boundNow) := goodIn_app (goodIn_of _ (by decide +kernel)) ggX6_bound_X6_boundNow
theorem dX6_bound_0 : decode cX6_bound 0 = .ok (.aload_n 0, 1) := by decide +kernel
theorem dX6_bound_1 : decode cX6_bound 1 = .ok (.iconst 0, 1) := by decide +kernel
theorem dX6_bound_2 : decode cX6_bound 2 = .ok (.putfield 57, 3) := by decide +kernel
theorem dX6_bound_5 : decode cX6_bound 5 = .ok (.aload_n 0, 1) := by decide +kernel
theorem dX6_bound_6 : decode cX6_bound 6 = .ok (.invokevirtual 118, 3) := by decide +kernel
theorem dX6_bound_9 : decode cX6_bound 9 = .ok (.ireturn, 1) := by decide +kernel
set_option maxRecDepth 20000 in
theorem ggX6_gap_X6_leastNow : GoodIn wsX6_gap wsX6_leastNow := goodIn_r _ [6, 7, 8, 9, 10, 11, 12, 5, 13, 14, 15, 16, 17, 18, 19, 20, 21, 22, 23, 24, 25, 26, 27, 28, 29, 30, 31, 32, 50, 51, 52, 53, 54, 55, 56, 57, 58, 59, 60, 61, 62, 63, 64, 65, 66, 67, 68] (by decide +kernel) (by decide +kernel)
set_option maxRecDepth 20000 in
theorem gX6_gap_X6_leastNow : GoodIn wsX6_gap (wsV RX6 112 RX6 yX6_leastNow wsX6_leastNow) := goodIn_app (goodIn_of _ (by decide +kernel)) ggX6_gap_X6_leastNow
set_option maxRecDepth 20000 in
theorem ggX6_gap_X6_boundNow : GoodIn wsX6_gap wsX6_boundNow := goodIn_r _ [36, 7, 9, 37, 38, 39, 5, 40, 14, 41, 42, 43, 44, 45, 46, 47, 48, 49, 21, 22, 23, 24, 25, 26, 27, 28, 29, 30, 31, 32, 50, 51, 52, 53, 54, 55, 56, 57, 58, 59, 60, 61, 62, 63, 64, 65, 66, 67, 68] (by decide +kernel) (by decide +kernel)
set_option maxRecDepth 20000 in
theorem gX6_gap_X6_boundNow : GoodIn wsX6_gap (wsV RX6 118 RX6 yX6_boundNow wsX6_boundNow) := goodIn_app (goodIn_of _ (by decide +kernel)) ggX6_gap_X6_boundNow
theorem dX6_gap_0 : decode cX6_gap 0 = .ok (.aload_n 0, 1) := by decide +kernel
theorem dX6_gap_1 : decode cX6_gap 1 = .ok (.iconst 0, 1) := by decide +kernel
theorem dX6_gap_2 : decode cX6_gap 2 = .ok (.putfield 57, 3) := by decide +kernel
theorem dX6_gap_5 : decode cX6_gap 5 = .ok (.aload_n 0, 1) := by decide +kernel
theorem dX6_gap_6 : decode cX6_gap 6 = .ok (.invokevirtual 112, 3) := by decide +kernel
theorem dX6_gap_9 : decode cX6_gap 9 = .ok (.aload_n 0, 1) := by decide +kernel
theorem dX6_gap_10 : decode cX6_gap 10 = .ok (.invokevirtual 118, 3) := by decide +kernel
theorem dX6_gap_13 : decode cX6_gap 13 = .ok (.isub, 1) := by decide +kernel
theorem dX6_gap_14 : decode cX6_gap 14 = .ok (.ireturn, 1) := by decide +kernel
set_option maxRecDepth 20000 in
theorem ggX6_isUsed_X6_isEdge : GoodIn wsX6_isUsed wsX6_isEdge := goodIn_r _ [7, 8, 9, 6, 10] (by decide +kernel) (by decide +kernel)
set_option maxRecDepth 20000 in
theorem gX6_isUsed_X6_isEdge : GoodIn wsX6_isUsed (va_wsS RX6 79 yX6_isEdge wsX6_isEdge) := goodIn_app (goodIn_of _ (by decide +kernel)) ggX6_isUsed_X6_isEdge
set_option maxRecDepth 20000 in
theorem ggX6_isUsed_X6_refused : GoodIn wsX6_isUsed wsX6_refused := goodIn_r _ [14, 15, 43, 44, 45, 46, 47, 48, 49, 50, 51, 52, 53, 54, 55, 56, 57, 58, 59, 60, 61] (by decide +kernel) (by decide +kernel)
set_option maxRecDepth 20000 in
theorem gX6_isUsed_X6_refused : GoodIn wsX6_isUsed (wsV RX6 68 RX6 yX6_refused wsX6_refused) := goodIn_app (goodIn_of _ (by decide +kernel)) ggX6_isUsed_X6_refused
set_option maxRecDepth 20000 in
theorem ggX6_isUsed_X6_leastNow : GoodIn wsX6_isUsed wsX6_leastNow := goodIn_r _ [19, 1, 2, 20, 21, 22, 23, 6, 24, 25, 26, 27, 28, 29, 30, 3, 31, 32, 33, 34, 35, 36, 37, 38, 39, 40, 41, 42, 43, 44, 45, 46, 47, 48, 49, 50, 51, 52, 53, 54, 55, 56, 57, 58, 59, 60, 61] (by decide +kernel) (by decide +kernel)
set_option maxRecDepth 20000 in
theorem gX6_isUsed_X6_leastNow : GoodIn wsX6_isUsed (wsV RX6 112 RX6 yX6_leastNow wsX6_leastNow) := goodIn_app (goodIn_of _ (by decide +kernel)) ggX6_isUsed_X6_leastNow
set_option maxRecDepth 20000 in
theorem ggX6_isUsed_X6_first : GoodIn wsX6_isUsed wsX6_first := goodIn_r _ [33] (by decide +kernel) (by decide +kernel)
set_option maxRecDepth 20000 in
theorem gX6_isUsed_X6_first : GoodIn wsX6_isUsed (va_wsS RX6 64 yX6_first wsX6_first) := goodIn_app (goodIn_of _ (by decide +kernel)) ggX6_isUsed_X6_first
set_option maxRecDepth 20000 in
theorem ggX6_isUsed_X6_leastOf : GoodIn wsX6_isUsed wsX6_leastOf := goodIn_r _ [24, 25, 2, 26, 27, 28, 29, 6, 30, 3, 31, 32, 33, 34, 35, 36, 37, 38, 39, 40, 41, 42, 43, 44, 45, 46, 47, 48, 49, 50, 51, 52, 53, 54, 55, 56, 57, 58, 59, 60, 61] (by decide +kernel) (by decide +kernel)
set_option maxRecDepth 20000 in
theorem gX6_isUsed_X6_leastOf : GoodIn wsX6_isUsed (wsV RX6 109 RX6 yX6_leastOf wsX6_leastOf) := goodIn_app (goodIn_of _ (by decide +kernel)) ggX6_isUsed_X6_leastOf
set_option maxRecDepth 20000 in
theorem ggX6_isUsed_X6_costOfEdge : GoodIn wsX6_isUsed wsX6_costOfEdge := goodIn_r _ [40, 41, 42, 43, 44, 45, 46, 47, 48, 49, 50, 51, 52, 53, 54, 55, 56, 57, 58, 59, 60, 61] (by decide +kernel) (by decide +kernel)
set_option maxRecDepth 20000 in
theorem gX6_isUsed_X6_costOfEdge : GoodIn wsX6_isUsed (wsV RX6 82 RX6 yX6_costOfEdge wsX6_costOfEdge) := goodIn_app (goodIn_of _ (by decide +kernel)) ggX6_isUsed_X6_costOfEdge
theorem dX6_isUsed_0 : decode cX6_isUsed 0 = .ok (.aload_n 0, 1) := by decide +kernel
theorem dX6_isUsed_1 : decode cX6_isUsed 1 = .ok (.iload_n 1, 1) := by decide +kernel
theorem dX6_isUsed_2 : decode cX6_isUsed 2 = .ok (.invokestatic 79, 3) := by decide +kernel
theorem dX6_isUsed_5 : decode cX6_isUsed 5 = .ok (.ifCond .eq 7, 3) := by decide +kernel
theorem dX6_isUsed_8 : decode cX6_isUsed 8 = .ok (.iconst 0, 1) := by decide +kernel
theorem dX6_isUsed_9 : decode cX6_isUsed 9 = .ok (.goto 4, 3) := by decide +kernel
theorem dX6_isUsed_12 : decode cX6_isUsed 12 = .ok (.iconst 1, 1) := by decide +kernel
theorem dX6_isUsed_13 : decode cX6_isUsed 13 = .ok (.invokevirtual 68, 3) := by decide +kernel
theorem dX6_isUsed_16 : decode cX6_isUsed 16 = .ok (.ifCond .ne 11, 3) := by decide +kernel
theorem dX6_isUsed_19 : decode cX6_isUsed 19 = .ok (.aload_n 0, 1) := by decide +kernel
theorem dX6_isUsed_20 : decode cX6_isUsed 20 = .ok (.getfield 100, 3) := by decide +kernel
theorem dX6_isUsed_23 : decode cX6_isUsed 23 = .ok (.iconst 2, 1) := by decide +kernel
theorem dX6_isUsed_24 : decode cX6_isUsed 24 = .ok (.if_icmp .ge 5, 3) := by decide +kernel
theorem dX6_isUsed_27 : decode cX6_isUsed 27 = .ok (.iconst 0, 1) := by decide +kernel
theorem dX6_isUsed_28 : decode cX6_isUsed 28 = .ok (.ireturn, 1) := by decide +kernel
theorem dX6_isUsed_29 : decode cX6_isUsed 29 = .ok (.aload_n 0, 1) := by decide +kernel
theorem dX6_isUsed_30 : decode cX6_isUsed 30 = .ok (.invokevirtual 112, 3) := by decide +kernel
theorem dX6_isUsed_33 : decode cX6_isUsed 33 = .ok (.istore_n 2, 1) := by decide +kernel
theorem dX6_isUsed_34 : decode cX6_isUsed 34 = .ok (.aload_n 0, 1) := by decide +kernel
theorem dX6_isUsed_35 : decode cX6_isUsed 35 = .ok (.getfield 32, 3) := by decide +kernel
theorem dX6_isUsed_38 : decode cX6_isUsed 38 = .ok (.aload_n 0, 1) := by decide +kernel
theorem dX6_isUsed_39 : decode cX6_isUsed 39 = .ok (.getfield 100, 3) := by decide +kernel
theorem dX6_isUsed_42 : decode cX6_isUsed 42 = .ok (.iload_n 1, 1) := by decide +kernel
theorem dX6_isUsed_43 : decode cX6_isUsed 43 = .ok (.invokestatic 64, 3) := by decide +kernel
theorem dX6_isUsed_46 : decode cX6_isUsed 46 = .ok (.iastore, 1) := by decide +kernel
theorem dX6_isUsed_47 : decode cX6_isUsed 47 = .ok (.aload_n 0, 1) := by decide +kernel
theorem dX6_isUsed_48 : decode cX6_isUsed 48 = .ok (.iload_n 1, 1) := by decide +kernel
theorem dX6_isUsed_49 : decode cX6_isUsed 49 = .ok (.putfield 53, 3) := by decide +kernel
theorem dX6_isUsed_52 : decode cX6_isUsed 52 = .ok (.aload_n 0, 1) := by decide +kernel
theorem dX6_isUsed_53 : decode cX6_isUsed 53 = .ok (.aload_n 0, 1) := by decide +kernel
theorem dX6_isUsed_54 : decode cX6_isUsed 54 = .ok (.getfield 100, 3) := by decide +kernel
theorem dX6_isUsed_57 : decode cX6_isUsed 57 = .ok (.iconst 1, 1) := by decide +kernel
theorem dX6_isUsed_58 : decode cX6_isUsed 58 = .ok (.iadd, 1) := by decide +kernel
theorem dX6_isUsed_59 : decode cX6_isUsed 59 = .ok (.invokevirtual 109, 3) := by decide +kernel
theorem dX6_isUsed_62 : decode cX6_isUsed 62 = .ok (.aload_n 0, 1) := by decide +kernel
theorem dX6_isUsed_63 : decode cX6_isUsed 63 = .ok (.iload_n 1, 1) := by decide +kernel
theorem dX6_isUsed_64 : decode cX6_isUsed 64 = .ok (.invokevirtual 82, 3) := by decide +kernel
theorem dX6_isUsed_67 : decode cX6_isUsed 67 = .ok (.iadd, 1) := by decide +kernel
theorem dX6_isUsed_68 : decode cX6_isUsed 68 = .ok (.istore_n 3, 1) := by decide +kernel
theorem dX6_isUsed_69 : decode cX6_isUsed 69 = .ok (.aload_n 0, 1) := by decide +kernel
theorem dX6_isUsed_70 : decode cX6_isUsed 70 = .ok (.iconst (-1), 1) := by decide +kernel
theorem dX6_isUsed_71 : decode cX6_isUsed 71 = .ok (.putfield 53, 3) := by decide +kernel
theorem dX6_isUsed_74 : decode cX6_isUsed 74 = .ok (.iload_n 3, 1) := by decide +kernel
theorem dX6_isUsed_75 : decode cX6_isUsed 75 = .ok (.iload_n 2, 1) := by decide +kernel
theorem dX6_isUsed_76 : decode cX6_isUsed 76 = .ok (.if_icmp .ne 7, 3) := by decide +kernel
theorem dX6_isUsed_79 : decode cX6_isUsed 79 = .ok (.iconst 1, 1) := by decide +kernel
theorem dX6_isUsed_80 : decode cX6_isUsed 80 = .ok (.goto 4, 3) := by decide +kernel
theorem dX6_isUsed_83 : decode cX6_isUsed 83 = .ok (.iconst 0, 1) := by decide +kernel
theorem dX6_isUsed_84 : decode cX6_isUsed 84 = .ok (.ireturn, 1) := by decide +kernel
set_option maxRecDepth 20000 in
theorem ggX6_stepCost_X6_costOfEdge : GoodIn wsX6_stepCost wsX6_costOfEdge := goodIn_r _ [7, 8, 9, 10, 11, 12, 13, 14, 15, 16, 17, 18, 19, 20, 21, 22, 23, 24, 25, 26, 27, 28] (by decide +kernel) (by decide +kernel)
set_option maxRecDepth 20000 in
theorem gX6_stepCost_X6_costOfEdge : GoodIn wsX6_stepCost (wsV RX6 82 RX6 yX6_costOfEdge wsX6_costOfEdge) := goodIn_app (goodIn_of _ (by decide +kernel)) ggX6_stepCost_X6_costOfEdge
theorem dX6_stepCost_0 : decode cX6_stepCost 0 = .ok (.aload_n 0, 1) := by decide +kernel
theorem dX6_stepCost_1 : decode cX6_stepCost 1 = .ok (.getfield 38, 3) := by decide +kernel
theorem dX6_stepCost_4 : decode cX6_stepCost 4 = .ok (.iload_n 1, 1) := by decide +kernel
theorem dX6_stepCost_5 : decode cX6_stepCost 5 = .ok (.iaload, 1) := by decide +kernel
theorem dX6_stepCost_6 : decode cX6_stepCost 6 = .ok (.ifCond .ne 9, 3) := by decide +kernel
theorem dX6_stepCost_9 : decode cX6_stepCost 9 = .ok (.aload_n 0, 1) := by decide +kernel
theorem dX6_stepCost_10 : decode cX6_stepCost 10 = .ok (.iload_n 1, 1) := by decide +kernel
theorem dX6_stepCost_11 : decode cX6_stepCost 11 = .ok (.invokevirtual 82, 3) := by decide +kernel
theorem dX6_stepCost_14 : decode cX6_stepCost 14 = .ok (.ireturn, 1) := by decide +kernel
theorem dX6_stepCost_15 : decode cX6_stepCost 15 = .ok (.aload_n 0, 1) := by decide +kernel
theorem dX6_stepCost_16 : decode cX6_stepCost 16 = .ok (.getfield 38, 3) := by decide +kernel
theorem dX6_stepCost_19 : decode cX6_stepCost 19 = .ok (.iload_n 1, 1) := by decide +kernel
theorem dX6_stepCost_20 : decode cX6_stepCost 20 = .ok (.iaload, 1) := by decide +kernel
theorem dX6_stepCost_21 : decode cX6_stepCost 21 = .ok (.iload_n 2, 1) := by decide +kernel
theorem dX6_stepCost_22 : decode cX6_stepCost 22 = .ok (.ifCond .eq 7, 3) := by decide +kernel
theorem dX6_stepCost_25 : decode cX6_stepCost 25 = .ok (.iconst (-1), 1) := by decide +kernel
theorem dX6_stepCost_26 : decode cX6_stepCost 26 = .ok (.goto 4, 3) := by decide +kernel
theorem dX6_stepCost_29 : decode cX6_stepCost 29 = .ok (.iconst 1, 1) := by decide +kernel
theorem dX6_stepCost_30 : decode cX6_stepCost 30 = .ok (.if_icmp .ne 12, 3) := by decide +kernel
theorem dX6_stepCost_33 : decode cX6_stepCost 33 = .ok (.aload_n 0, 1) := by decide +kernel
theorem dX6_stepCost_34 : decode cX6_stepCost 34 = .ok (.iload_n 1, 1) := by decide +kernel
theorem dX6_stepCost_35 : decode cX6_stepCost 35 = .ok (.invokevirtual 82, 3) := by decide +kernel
theorem dX6_stepCost_38 : decode cX6_stepCost 38 = .ok (.ineg, 1) := by decide +kernel
theorem dX6_stepCost_39 : decode cX6_stepCost 39 = .ok (.goto 5, 3) := by decide +kernel
theorem dX6_stepCost_42 : decode cX6_stepCost 42 = .ok (.ldc 85, 2) := by decide +kernel
theorem dX6_stepCost_44 : decode cX6_stepCost 44 = .ok (.ireturn, 1) := by decide +kernel
set_option maxRecDepth 20000 in
theorem ggX6_oneWay_X6_first : GoodIn wsX6_oneWay wsX6_first := goodIn_r _ [8] (by decide +kernel) (by decide +kernel)
set_option maxRecDepth 20000 in
theorem gX6_oneWay_X6_first : GoodIn wsX6_oneWay (va_wsS RX6 64 yX6_first wsX6_first) := goodIn_app (goodIn_of _ (by decide +kernel)) ggX6_oneWay_X6_first
set_option maxRecDepth 20000 in
theorem ggX6_oneWay_X6_second : GoodIn wsX6_oneWay wsX6_second := goodIn_r _ [11, 5, 6, 7, 8] (by decide +kernel) (by decide +kernel)
set_option maxRecDepth 20000 in
theorem gX6_oneWay_X6_second : GoodIn wsX6_oneWay (va_wsS RX6 86 yX6_second wsX6_second) := goodIn_app (goodIn_of _ (by decide +kernel)) ggX6_oneWay_X6_second
set_option maxRecDepth 20000 in
theorem ggX6_oneWay_X6_stepCost : GoodIn wsX6_oneWay wsX6_stepCost := goodIn_r _ [15, 4, 2, 16, 17, 18, 7, 19, 20, 21, 22, 23, 24, 25, 26, 27, 28, 29, 30, 31, 32, 33, 34, 35, 36, 37, 38, 39, 40] (by decide +kernel) (by decide +kernel)
set_option maxRecDepth 20000 in
theorem gX6_oneWay_X6_stepCost : GoodIn wsX6_oneWay (wsV RX6 121 RX6 yX6_stepCost wsX6_stepCost) := goodIn_app (goodIn_of _ (by decide +kernel)) ggX6_oneWay_X6_stepCost
theorem dX6_oneWay_0 : decode cX6_oneWay 0 = .ok (.iconst 0, 1) := by decide +kernel
theorem dX6_oneWay_1 : decode cX6_oneWay 1 = .ok (.istore_n 3, 1) := by decide +kernel
theorem dX6_oneWay_2 : decode cX6_oneWay 2 = .ok (.iload_n 3, 1) := by decide +kernel
theorem dX6_oneWay_3 : decode cX6_oneWay 3 = .ok (.bipush 36, 2) := by decide +kernel
theorem dX6_oneWay_5 : decode cX6_oneWay 5 = .ok (.if_icmp .ge 33, 3) := by decide +kernel
theorem dX6_oneWay_8 : decode cX6_oneWay 8 = .ok (.aload_n 0, 1) := by decide +kernel
theorem dX6_oneWay_9 : decode cX6_oneWay 9 = .ok (.getfield 29, 3) := by decide +kernel
theorem dX6_oneWay_12 : decode cX6_oneWay 12 = .ok (.iload_n 3, 1) := by decide +kernel
theorem dX6_oneWay_13 : decode cX6_oneWay 13 = .ok (.iload_n 3, 1) := by decide +kernel
theorem dX6_oneWay_14 : decode cX6_oneWay 14 = .ok (.iload_n 1, 1) := by decide +kernel
theorem dX6_oneWay_15 : decode cX6_oneWay 15 = .ok (.if_icmp .ne 7, 3) := by decide +kernel
theorem dX6_oneWay_18 : decode cX6_oneWay 18 = .ok (.iconst 0, 1) := by decide +kernel
theorem dX6_oneWay_19 : decode cX6_oneWay 19 = .ok (.goto 5, 3) := by decide +kernel
theorem dX6_oneWay_22 : decode cX6_oneWay 22 = .ok (.ldc 85, 2) := by decide +kernel
theorem dX6_oneWay_24 : decode cX6_oneWay 24 = .ok (.iastore, 1) := by decide +kernel
theorem dX6_oneWay_25 : decode cX6_oneWay 25 = .ok (.aload_n 0, 1) := by decide +kernel
theorem dX6_oneWay_26 : decode cX6_oneWay 26 = .ok (.getfield 41, 3) := by decide +kernel
theorem dX6_oneWay_29 : decode cX6_oneWay 29 = .ok (.iload_n 3, 1) := by decide +kernel
theorem dX6_oneWay_30 : decode cX6_oneWay 30 = .ok (.iconst (-1), 1) := by decide +kernel
theorem dX6_oneWay_31 : decode cX6_oneWay 31 = .ok (.iastore, 1) := by decide +kernel
theorem dX6_oneWay_32 : decode cX6_oneWay 32 = .ok (.iinc 3 1, 3) := by decide +kernel
theorem dX6_oneWay_35 : decode cX6_oneWay 35 = .ok (.goto (-33), 3) := by decide +kernel
theorem dX6_oneWay_38 : decode cX6_oneWay 38 = .ok (.iconst 0, 1) := by decide +kernel
theorem dX6_oneWay_39 : decode cX6_oneWay 39 = .ok (.istore_n 3, 1) := by decide +kernel
theorem dX6_oneWay_40 : decode cX6_oneWay 40 = .ok (.iload_n 3, 1) := by decide +kernel
theorem dX6_oneWay_41 : decode cX6_oneWay 41 = .ok (.bipush 36, 2) := by decide +kernel
theorem dX6_oneWay_43 : decode cX6_oneWay 43 = .ok (.if_icmp .ge 160, 3) := by decide +kernel
theorem dX6_oneWay_46 : decode cX6_oneWay 46 = .ok (.iconst 0, 1) := by decide +kernel
theorem dX6_oneWay_47 : decode cX6_oneWay 47 = .ok (.istore 4, 2) := by decide +kernel
theorem dX6_oneWay_49 : decode cX6_oneWay 49 = .ok (.iload 4, 2) := by decide +kernel
theorem dX6_oneWay_51 : decode cX6_oneWay 51 = .ok (.bipush 120, 2) := by decide +kernel
theorem dX6_oneWay_53 : decode cX6_oneWay 53 = .ok (.if_icmp .ge 144, 3) := by decide +kernel
theorem dX6_oneWay_56 : decode cX6_oneWay 56 = .ok (.iload 4, 2) := by decide +kernel
theorem dX6_oneWay_58 : decode cX6_oneWay 58 = .ok (.iconst 2, 1) := by decide +kernel
theorem dX6_oneWay_59 : decode cX6_oneWay 59 = .ok (.idiv, 1) := by decide +kernel
theorem dX6_oneWay_60 : decode cX6_oneWay 60 = .ok (.istore 5, 2) := by decide +kernel
theorem dX6_oneWay_62 : decode cX6_oneWay 62 = .ok (.iload 4, 2) := by decide +kernel
theorem dX6_oneWay_64 : decode cX6_oneWay 64 = .ok (.iconst 2, 1) := by decide +kernel
theorem dX6_oneWay_65 : decode cX6_oneWay 65 = .ok (.irem, 1) := by decide +kernel
theorem dX6_oneWay_66 : decode cX6_oneWay 66 = .ok (.ifCond .ne 11, 3) := by decide +kernel
theorem dX6_oneWay_69 : decode cX6_oneWay 69 = .ok (.iload 5, 2) := by decide +kernel
theorem dX6_oneWay_71 : decode cX6_oneWay 71 = .ok (.invokestatic 64, 3) := by decide +kernel
theorem dX6_oneWay_74 : decode cX6_oneWay 74 = .ok (.goto 8, 3) := by decide +kernel
theorem dX6_oneWay_77 : decode cX6_oneWay 77 = .ok (.iload 5, 2) := by decide +kernel
theorem dX6_oneWay_79 : decode cX6_oneWay 79 = .ok (.invokestatic 86, 3) := by decide +kernel
theorem dX6_oneWay_82 : decode cX6_oneWay 82 = .ok (.istore 6, 2) := by decide +kernel
theorem dX6_oneWay_84 : decode cX6_oneWay 84 = .ok (.iload 4, 2) := by decide +kernel
theorem dX6_oneWay_86 : decode cX6_oneWay 86 = .ok (.iconst 2, 1) := by decide +kernel
theorem dX6_oneWay_87 : decode cX6_oneWay 87 = .ok (.irem, 1) := by decide +kernel
theorem dX6_oneWay_88 : decode cX6_oneWay 88 = .ok (.ifCond .ne 11, 3) := by decide +kernel
theorem dX6_oneWay_91 : decode cX6_oneWay 91 = .ok (.iload 5, 2) := by decide +kernel
theorem dX6_oneWay_93 : decode cX6_oneWay 93 = .ok (.invokestatic 86, 3) := by decide +kernel
theorem dX6_oneWay_96 : decode cX6_oneWay 96 = .ok (.goto 8, 3) := by decide +kernel
theorem dX6_oneWay_99 : decode cX6_oneWay 99 = .ok (.iload 5, 2) := by decide +kernel
theorem dX6_oneWay_101 : decode cX6_oneWay 101 = .ok (.invokestatic 64, 3) := by decide +kernel
theorem dX6_oneWay_104 : decode cX6_oneWay 104 = .ok (.istore 7, 2) := by decide +kernel
theorem dX6_oneWay_106 : decode cX6_oneWay 106 = .ok (.aload_n 0, 1) := by decide +kernel
theorem dX6_oneWay_107 : decode cX6_oneWay 107 = .ok (.iload 5, 2) := by decide +kernel
theorem dX6_oneWay_109 : decode cX6_oneWay 109 = .ok (.iload 4, 2) := by decide +kernel
theorem dX6_oneWay_111 : decode cX6_oneWay 111 = .ok (.iconst 2, 1) := by decide +kernel
theorem dX6_oneWay_112 : decode cX6_oneWay 112 = .ok (.irem, 1) := by decide +kernel
theorem dX6_oneWay_113 : decode cX6_oneWay 113 = .ok (.ifCond .ne 7, 3) := by decide +kernel
theorem dX6_oneWay_116 : decode cX6_oneWay 116 = .ok (.iconst 1, 1) := by decide +kernel
theorem dX6_oneWay_117 : decode cX6_oneWay 117 = .ok (.goto 4, 3) := by decide +kernel
theorem dX6_oneWay_120 : decode cX6_oneWay 120 = .ok (.iconst 0, 1) := by decide +kernel
theorem dX6_oneWay_121 : decode cX6_oneWay 121 = .ok (.invokevirtual 121, 3) := by decide +kernel
theorem dX6_oneWay_124 : decode cX6_oneWay 124 = .ok (.istore 8, 2) := by decide +kernel
theorem dX6_oneWay_126 : decode cX6_oneWay 126 = .ok (.aload_n 0, 1) := by decide +kernel
theorem dX6_oneWay_127 : decode cX6_oneWay 127 = .ok (.getfield 29, 3) := by decide +kernel
theorem dX6_oneWay_130 : decode cX6_oneWay 130 = .ok (.iload 6, 2) := by decide +kernel
theorem dX6_oneWay_132 : decode cX6_oneWay 132 = .ok (.iaload, 1) := by decide +kernel
theorem dX6_oneWay_133 : decode cX6_oneWay 133 = .ok (.ldc 85, 2) := by decide +kernel
theorem dX6_oneWay_135 : decode cX6_oneWay 135 = .ok (.if_icmp .ge 56, 3) := by decide +kernel
theorem dX6_oneWay_138 : decode cX6_oneWay 138 = .ok (.iload 8, 2) := by decide +kernel
theorem dX6_oneWay_140 : decode cX6_oneWay 140 = .ok (.ldc 85, 2) := by decide +kernel
theorem dX6_oneWay_142 : decode cX6_oneWay 142 = .ok (.if_icmp .ge 49, 3) := by decide +kernel
theorem dX6_oneWay_145 : decode cX6_oneWay 145 = .ok (.aload_n 0, 1) := by decide +kernel
theorem dX6_oneWay_146 : decode cX6_oneWay 146 = .ok (.getfield 29, 3) := by decide +kernel
theorem dX6_oneWay_149 : decode cX6_oneWay 149 = .ok (.iload 6, 2) := by decide +kernel
theorem dX6_oneWay_151 : decode cX6_oneWay 151 = .ok (.iaload, 1) := by decide +kernel
theorem dX6_oneWay_152 : decode cX6_oneWay 152 = .ok (.iload 8, 2) := by decide +kernel
theorem dX6_oneWay_154 : decode cX6_oneWay 154 = .ok (.iadd, 1) := by decide +kernel
theorem dX6_oneWay_155 : decode cX6_oneWay 155 = .ok (.aload_n 0, 1) := by decide +kernel
theorem dX6_oneWay_156 : decode cX6_oneWay 156 = .ok (.getfield 29, 3) := by decide +kernel
theorem dX6_oneWay_159 : decode cX6_oneWay 159 = .ok (.iload 7, 2) := by decide +kernel
theorem dX6_oneWay_161 : decode cX6_oneWay 161 = .ok (.iaload, 1) := by decide +kernel
theorem dX6_oneWay_162 : decode cX6_oneWay 162 = .ok (.if_icmp .ge 29, 3) := by decide +kernel
theorem dX6_oneWay_165 : decode cX6_oneWay 165 = .ok (.aload_n 0, 1) := by decide +kernel
theorem dX6_oneWay_166 : decode cX6_oneWay 166 = .ok (.getfield 29, 3) := by decide +kernel
theorem dX6_oneWay_169 : decode cX6_oneWay 169 = .ok (.iload 7, 2) := by decide +kernel
theorem dX6_oneWay_171 : decode cX6_oneWay 171 = .ok (.aload_n 0, 1) := by decide +kernel
theorem dX6_oneWay_172 : decode cX6_oneWay 172 = .ok (.getfield 29, 3) := by decide +kernel
theorem dX6_oneWay_175 : decode cX6_oneWay 175 = .ok (.iload 6, 2) := by decide +kernel
theorem dX6_oneWay_177 : decode cX6_oneWay 177 = .ok (.iaload, 1) := by decide +kernel
theorem dX6_oneWay_178 : decode cX6_oneWay 178 = .ok (.iload 8, 2) := by decide +kernel
theorem dX6_oneWay_180 : decode cX6_oneWay 180 = .ok (.iadd, 1) := by decide +kernel
theorem dX6_oneWay_181 : decode cX6_oneWay 181 = .ok (.iastore, 1) := by decide +kernel
theorem dX6_oneWay_182 : decode cX6_oneWay 182 = .ok (.aload_n 0, 1) := by decide +kernel
theorem dX6_oneWay_183 : decode cX6_oneWay 183 = .ok (.getfield 41, 3) := by decide +kernel
theorem dX6_oneWay_186 : decode cX6_oneWay 186 = .ok (.iload 7, 2) := by decide +kernel
theorem dX6_oneWay_188 : decode cX6_oneWay 188 = .ok (.iload 4, 2) := by decide +kernel
theorem dX6_oneWay_190 : decode cX6_oneWay 190 = .ok (.iastore, 1) := by decide +kernel
theorem dX6_oneWay_191 : decode cX6_oneWay 191 = .ok (.iinc 4 1, 3) := by decide +kernel
theorem dX6_oneWay_194 : decode cX6_oneWay 194 = .ok (.goto (-145), 3) := by decide +kernel
theorem dX6_oneWay_197 : decode cX6_oneWay 197 = .ok (.iinc 3 1, 3) := by decide +kernel
theorem dX6_oneWay_200 : decode cX6_oneWay 200 = .ok (.goto (-160), 3) := by decide +kernel
theorem dX6_oneWay_203 : decode cX6_oneWay 203 = .ok (.iload_n 2, 1) := by decide +kernel
theorem dX6_oneWay_204 : decode cX6_oneWay 204 = .ok (.istore_n 3, 1) := by decide +kernel
theorem dX6_oneWay_205 : decode cX6_oneWay 205 = .ok (.iload_n 3, 1) := by decide +kernel
theorem dX6_oneWay_206 : decode cX6_oneWay 206 = .ok (.iload_n 1, 1) := by decide +kernel
theorem dX6_oneWay_207 : decode cX6_oneWay 207 = .ok (.if_icmp .eq 63, 3) := by decide +kernel
theorem dX6_oneWay_210 : decode cX6_oneWay 210 = .ok (.aload_n 0, 1) := by decide +kernel
theorem dX6_oneWay_211 : decode cX6_oneWay 211 = .ok (.getfield 41, 3) := by decide +kernel
theorem dX6_oneWay_214 : decode cX6_oneWay 214 = .ok (.iload_n 3, 1) := by decide +kernel
theorem dX6_oneWay_215 : decode cX6_oneWay 215 = .ok (.iaload, 1) := by decide +kernel
theorem dX6_oneWay_216 : decode cX6_oneWay 216 = .ok (.istore 4, 2) := by decide +kernel
theorem dX6_oneWay_218 : decode cX6_oneWay 218 = .ok (.aload_n 0, 1) := by decide +kernel
theorem dX6_oneWay_219 : decode cX6_oneWay 219 = .ok (.getfield 38, 3) := by decide +kernel
theorem dX6_oneWay_222 : decode cX6_oneWay 222 = .ok (.iload 4, 2) := by decide +kernel
theorem dX6_oneWay_224 : decode cX6_oneWay 224 = .ok (.iconst 2, 1) := by decide +kernel
theorem dX6_oneWay_225 : decode cX6_oneWay 225 = .ok (.idiv, 1) := by decide +kernel
theorem dX6_oneWay_226 : decode cX6_oneWay 226 = .ok (.dup2, 1) := by decide +kernel
theorem dX6_oneWay_227 : decode cX6_oneWay 227 = .ok (.iaload, 1) := by decide +kernel
theorem dX6_oneWay_228 : decode cX6_oneWay 228 = .ok (.iload 4, 2) := by decide +kernel
theorem dX6_oneWay_230 : decode cX6_oneWay 230 = .ok (.iconst 2, 1) := by decide +kernel
theorem dX6_oneWay_231 : decode cX6_oneWay 231 = .ok (.irem, 1) := by decide +kernel
theorem dX6_oneWay_232 : decode cX6_oneWay 232 = .ok (.ifCond .ne 7, 3) := by decide +kernel
theorem dX6_oneWay_235 : decode cX6_oneWay 235 = .ok (.iconst 1, 1) := by decide +kernel
theorem dX6_oneWay_236 : decode cX6_oneWay 236 = .ok (.goto 4, 3) := by decide +kernel
theorem dX6_oneWay_239 : decode cX6_oneWay 239 = .ok (.iconst (-1), 1) := by decide +kernel
theorem dX6_oneWay_240 : decode cX6_oneWay 240 = .ok (.iadd, 1) := by decide +kernel
theorem dX6_oneWay_241 : decode cX6_oneWay 241 = .ok (.iastore, 1) := by decide +kernel
theorem dX6_oneWay_242 : decode cX6_oneWay 242 = .ok (.iload 4, 2) := by decide +kernel
theorem dX6_oneWay_244 : decode cX6_oneWay 244 = .ok (.iconst 2, 1) := by decide +kernel
theorem dX6_oneWay_245 : decode cX6_oneWay 245 = .ok (.irem, 1) := by decide +kernel
theorem dX6_oneWay_246 : decode cX6_oneWay 246 = .ok (.ifCond .ne 13, 3) := by decide +kernel
theorem dX6_oneWay_249 : decode cX6_oneWay 249 = .ok (.iload 4, 2) := by decide +kernel
theorem dX6_oneWay_251 : decode cX6_oneWay 251 = .ok (.iconst 2, 1) := by decide +kernel
theorem dX6_oneWay_252 : decode cX6_oneWay 252 = .ok (.idiv, 1) := by decide +kernel
theorem dX6_oneWay_253 : decode cX6_oneWay 253 = .ok (.invokestatic 64, 3) := by decide +kernel
theorem dX6_oneWay_256 : decode cX6_oneWay 256 = .ok (.goto 10, 3) := by decide +kernel
theorem dX6_oneWay_259 : decode cX6_oneWay 259 = .ok (.iload 4, 2) := by decide +kernel
theorem dX6_oneWay_261 : decode cX6_oneWay 261 = .ok (.iconst 2, 1) := by decide +kernel
theorem dX6_oneWay_262 : decode cX6_oneWay 262 = .ok (.idiv, 1) := by decide +kernel
theorem dX6_oneWay_263 : decode cX6_oneWay 263 = .ok (.invokestatic 86, 3) := by decide +kernel
theorem dX6_oneWay_266 : decode cX6_oneWay 266 = .ok (.istore_n 3, 1) := by decide +kernel
theorem dX6_oneWay_267 : decode cX6_oneWay 267 = .ok (.goto (-62), 3) := by decide +kernel
theorem dX6_oneWay_270 : decode cX6_oneWay 270 = .ok (.aload_n 0, 1) := by decide +kernel
theorem dX6_oneWay_271 : decode cX6_oneWay 271 = .ok (.getfield 29, 3) := by decide +kernel
theorem dX6_oneWay_274 : decode cX6_oneWay 274 = .ok (.iload_n 2, 1) := by decide +kernel
theorem dX6_oneWay_275 : decode cX6_oneWay 275 = .ok (.iaload, 1) := by decide +kernel
theorem dX6_oneWay_276 : decode cX6_oneWay 276 = .ok (.ireturn, 1) := by decide +kernel
set_option maxRecDepth 20000 in
theorem ggX6_twoWays_X6_isNode : GoodIn wsX6_twoWays wsX6_isNode := goodIn_r _ [5, 6, 7, 4, 8] (by decide +kernel) (by decide +kernel)
set_option maxRecDepth 20000 in
theorem gX6_twoWays_X6_isNode : GoodIn wsX6_twoWays (va_wsS RX6 93 yX6_isNode wsX6_isNode) := goodIn_app (goodIn_of _ (by decide +kernel)) ggX6_twoWays_X6_isNode
set_option maxRecDepth 20000 in
theorem ggX6_twoWays_X6_refused : GoodIn wsX6_twoWays wsX6_refused := goodIn_r _ [12, 13, 37, 38, 39, 40, 41, 42, 43, 44, 45, 46, 47, 48, 49, 50, 51, 52, 53, 54, 55] (by decide +kernel) (by decide +kernel)
set_option maxRecDepth 20000 in
theorem gX6_twoWays_X6_refused : GoodIn wsX6_twoWays (wsV RX6 68 RX6 yX6_refused wsX6_refused) := goodIn_app (goodIn_of _ (by decide +kernel)) ggX6_twoWays_X6_refused
set_option maxRecDepth 20000 in
theorem ggX6_twoWays_X6_oneWay : GoodIn wsX6_twoWays wsX6_oneWay := goodIn_r _ [17, 18, 19, 20, 1, 21, 22, 4, 23, 24, 25, 26, 27, 28, 29, 30, 31, 32, 33, 34, 35, 36, 37, 38, 39, 40, 41, 42, 43, 44, 45, 46, 47, 48, 49, 50, 51, 52, 53, 54, 55] (by decide +kernel) (by decide +kernel)
set_option maxRecDepth 20000 in
theorem gX6_twoWays_X6_oneWay : GoodIn wsX6_twoWays (wsV RX6 125 RX6 yX6_oneWay wsX6_oneWay) := goodIn_app (goodIn_of _ (by decide +kernel)) ggX6_twoWays_X6_oneWay
theorem dX6_twoWays_0 : decode cX6_twoWays 0 = .ok (.aload_n 0, 1) := by decide +kernel
theorem dX6_twoWays_1 : decode cX6_twoWays 1 = .ok (.iload_n 1, 1) := by decide +kernel
theorem dX6_twoWays_2 : decode cX6_twoWays 2 = .ok (.invokestatic 93, 3) := by decide +kernel
theorem dX6_twoWays_5 : decode cX6_twoWays 5 = .ok (.ifCond .eq 10, 3) := by decide +kernel
theorem dX6_twoWays_8 : decode cX6_twoWays 8 = .ok (.iload_n 2, 1) := by decide +kernel
theorem dX6_twoWays_9 : decode cX6_twoWays 9 = .ok (.invokestatic 93, 3) := by decide +kernel
theorem dX6_twoWays_12 : decode cX6_twoWays 12 = .ok (.ifCond .ne 7, 3) := by decide +kernel
theorem dX6_twoWays_15 : decode cX6_twoWays 15 = .ok (.iconst 1, 1) := by decide +kernel
theorem dX6_twoWays_16 : decode cX6_twoWays 16 = .ok (.goto 13, 3) := by decide +kernel
theorem dX6_twoWays_19 : decode cX6_twoWays 19 = .ok (.iload_n 1, 1) := by decide +kernel
theorem dX6_twoWays_20 : decode cX6_twoWays 20 = .ok (.iload_n 2, 1) := by decide +kernel
theorem dX6_twoWays_21 : decode cX6_twoWays 21 = .ok (.if_icmp .ne 7, 3) := by decide +kernel
theorem dX6_twoWays_24 : decode cX6_twoWays 24 = .ok (.iconst 2, 1) := by decide +kernel
theorem dX6_twoWays_25 : decode cX6_twoWays 25 = .ok (.goto 4, 3) := by decide +kernel
theorem dX6_twoWays_28 : decode cX6_twoWays 28 = .ok (.iconst 0, 1) := by decide +kernel
theorem dX6_twoWays_29 : decode cX6_twoWays 29 = .ok (.invokevirtual 68, 3) := by decide +kernel
theorem dX6_twoWays_32 : decode cX6_twoWays 32 = .ok (.ifCond .eq 5, 3) := by decide +kernel
theorem dX6_twoWays_35 : decode cX6_twoWays 35 = .ok (.iconst 0, 1) := by decide +kernel
theorem dX6_twoWays_36 : decode cX6_twoWays 36 = .ok (.ireturn, 1) := by decide +kernel
theorem dX6_twoWays_37 : decode cX6_twoWays 37 = .ok (.iconst 0, 1) := by decide +kernel
theorem dX6_twoWays_38 : decode cX6_twoWays 38 = .ok (.istore_n 3, 1) := by decide +kernel
theorem dX6_twoWays_39 : decode cX6_twoWays 39 = .ok (.iload_n 3, 1) := by decide +kernel
theorem dX6_twoWays_40 : decode cX6_twoWays 40 = .ok (.bipush 60, 2) := by decide +kernel
theorem dX6_twoWays_42 : decode cX6_twoWays 42 = .ok (.if_icmp .ge 16, 3) := by decide +kernel
theorem dX6_twoWays_45 : decode cX6_twoWays 45 = .ok (.aload_n 0, 1) := by decide +kernel
theorem dX6_twoWays_46 : decode cX6_twoWays 46 = .ok (.getfield 38, 3) := by decide +kernel
theorem dX6_twoWays_49 : decode cX6_twoWays 49 = .ok (.iload_n 3, 1) := by decide +kernel
theorem dX6_twoWays_50 : decode cX6_twoWays 50 = .ok (.iconst 0, 1) := by decide +kernel
theorem dX6_twoWays_51 : decode cX6_twoWays 51 = .ok (.iastore, 1) := by decide +kernel
theorem dX6_twoWays_52 : decode cX6_twoWays 52 = .ok (.iinc 3 1, 3) := by decide +kernel
theorem dX6_twoWays_55 : decode cX6_twoWays 55 = .ok (.goto (-16), 3) := by decide +kernel
theorem dX6_twoWays_58 : decode cX6_twoWays 58 = .ok (.aload_n 0, 1) := by decide +kernel
theorem dX6_twoWays_59 : decode cX6_twoWays 59 = .ok (.iload_n 1, 1) := by decide +kernel
theorem dX6_twoWays_60 : decode cX6_twoWays 60 = .ok (.iload_n 2, 1) := by decide +kernel
theorem dX6_twoWays_61 : decode cX6_twoWays 61 = .ok (.invokevirtual 125, 3) := by decide +kernel
theorem dX6_twoWays_64 : decode cX6_twoWays 64 = .ok (.istore_n 3, 1) := by decide +kernel
theorem dX6_twoWays_65 : decode cX6_twoWays 65 = .ok (.iload_n 3, 1) := by decide +kernel
theorem dX6_twoWays_66 : decode cX6_twoWays 66 = .ok (.aload_n 0, 1) := by decide +kernel
theorem dX6_twoWays_67 : decode cX6_twoWays 67 = .ok (.iload_n 1, 1) := by decide +kernel
theorem dX6_twoWays_68 : decode cX6_twoWays 68 = .ok (.iload_n 2, 1) := by decide +kernel
theorem dX6_twoWays_69 : decode cX6_twoWays 69 = .ok (.invokevirtual 125, 3) := by decide +kernel
theorem dX6_twoWays_72 : decode cX6_twoWays 72 = .ok (.iadd, 1) := by decide +kernel
theorem dX6_twoWays_73 : decode cX6_twoWays 73 = .ok (.ireturn, 1) := by decide +kernel
set_option maxRecDepth 20000 in
theorem ggX6_pin_X6_isNode : GoodIn wsX6_pin wsX6_isNode := goodIn_r _ [5, 6, 7, 4, 8] (by decide +kernel) (by decide +kernel)
set_option maxRecDepth 20000 in
theorem gX6_pin_X6_isNode : GoodIn wsX6_pin (va_wsS RX6 93 yX6_isNode wsX6_isNode) := goodIn_app (goodIn_of _ (by decide +kernel)) ggX6_pin_X6_isNode
set_option maxRecDepth 20000 in
theorem ggX6_pin_X6_in : GoodIn wsX6_pin wsX6_in := goodIn_r _ [8] (by decide +kernel) (by decide +kernel)
set_option maxRecDepth 20000 in
theorem gX6_pin_X6_in : GoodIn wsX6_pin (va_wsS RX6 60 yX6_in wsX6_in) := goodIn_app (goodIn_of _ (by decide +kernel)) ggX6_pin_X6_in
set_option maxRecDepth 20000 in
theorem ggX6_pin_X6_refused : GoodIn wsX6_pin wsX6_refused := goodIn_r _ [12, 13, 14, 15, 16, 17, 18, 19, 20, 21, 22, 23, 24, 25, 26, 27, 28, 29, 30, 31, 32] (by decide +kernel) (by decide +kernel)
set_option maxRecDepth 20000 in
theorem gX6_pin_X6_refused : GoodIn wsX6_pin (wsV RX6 68 RX6 yX6_refused wsX6_refused) := goodIn_app (goodIn_of _ (by decide +kernel)) ggX6_pin_X6_refused
theorem dX6_pin_0 : decode cX6_pin 0 = .ok (.aload_n 0, 1) := by decide +kernel
theorem dX6_pin_1 : decode cX6_pin 1 = .ok (.iload_n 1, 1) := by decide +kernel
theorem dX6_pin_2 : decode cX6_pin 2 = .ok (.invokestatic 93, 3) := by decide +kernel
theorem dX6_pin_5 : decode cX6_pin 5 = .ok (.ifCond .ne 7, 3) := by decide +kernel
theorem dX6_pin_8 : decode cX6_pin 8 = .ok (.iconst 1, 1) := by decide +kernel
theorem dX6_pin_9 : decode cX6_pin 9 = .ok (.goto 17, 3) := by decide +kernel
theorem dX6_pin_12 : decode cX6_pin 12 = .ok (.iload_n 2, 1) := by decide +kernel
theorem dX6_pin_13 : decode cX6_pin 13 = .ok (.iconst 0, 1) := by decide +kernel
theorem dX6_pin_14 : decode cX6_pin 14 = .ok (.iconst 2, 1) := by decide +kernel
theorem dX6_pin_15 : decode cX6_pin 15 = .ok (.invokestatic 60, 3) := by decide +kernel
theorem dX6_pin_18 : decode cX6_pin 18 = .ok (.ifCond .eq 7, 3) := by decide +kernel
theorem dX6_pin_21 : decode cX6_pin 21 = .ok (.iconst 0, 1) := by decide +kernel
theorem dX6_pin_22 : decode cX6_pin 22 = .ok (.goto 4, 3) := by decide +kernel
theorem dX6_pin_25 : decode cX6_pin 25 = .ok (.iconst 2, 1) := by decide +kernel
theorem dX6_pin_26 : decode cX6_pin 26 = .ok (.invokevirtual 68, 3) := by decide +kernel
theorem dX6_pin_29 : decode cX6_pin 29 = .ok (.ifCond .eq 5, 3) := by decide +kernel
theorem dX6_pin_32 : decode cX6_pin 32 = .ok (.iconst 0, 1) := by decide +kernel
theorem dX6_pin_33 : decode cX6_pin 33 = .ok (.ireturn, 1) := by decide +kernel
theorem dX6_pin_34 : decode cX6_pin 34 = .ok (.aload_n 0, 1) := by decide +kernel
theorem dX6_pin_35 : decode cX6_pin 35 = .ok (.getfield 19, 3) := by decide +kernel
theorem dX6_pin_38 : decode cX6_pin 38 = .ok (.iload_n 1, 1) := by decide +kernel
theorem dX6_pin_39 : decode cX6_pin 39 = .ok (.iaload, 1) := by decide +kernel
theorem dX6_pin_40 : decode cX6_pin 40 = .ok (.istore_n 3, 1) := by decide +kernel
theorem dX6_pin_41 : decode cX6_pin 41 = .ok (.aload_n 0, 1) := by decide +kernel
theorem dX6_pin_42 : decode cX6_pin 42 = .ok (.getfield 19, 3) := by decide +kernel
theorem dX6_pin_45 : decode cX6_pin 45 = .ok (.iload_n 1, 1) := by decide +kernel
theorem dX6_pin_46 : decode cX6_pin 46 = .ok (.iload_n 2, 1) := by decide +kernel
theorem dX6_pin_47 : decode cX6_pin 47 = .ok (.iastore, 1) := by decide +kernel
theorem dX6_pin_48 : decode cX6_pin 48 = .ok (.iload_n 3, 1) := by decide +kernel
theorem dX6_pin_49 : decode cX6_pin 49 = .ok (.ireturn, 1) := by decide +kernel
set_option maxRecDepth 20000 in
theorem ggX6_rest_X6_costOfEdge : GoodIn wsX6_rest wsX6_costOfEdge := goodIn_r _ [6, 7, 8, 9, 10, 11, 12, 13, 14, 15, 16, 17, 18, 19, 20, 21, 22, 23, 24, 25, 26, 27] (by decide +kernel) (by decide +kernel)
set_option maxRecDepth 20000 in
theorem gX6_rest_X6_costOfEdge : GoodIn wsX6_rest (wsV RX6 82 RX6 yX6_costOfEdge wsX6_costOfEdge) := goodIn_app (goodIn_of _ (by decide +kernel)) ggX6_rest_X6_costOfEdge
theorem dX6_rest_0 : decode cX6_rest 0 = .ok (.iload_n 2, 1) := by decide +kernel
theorem dX6_rest_1 : decode cX6_rest 1 = .ok (.ifCond .eq 18, 3) := by decide +kernel
theorem dX6_rest_4 : decode cX6_rest 4 = .ok (.aload_n 0, 1) := by decide +kernel
theorem dX6_rest_5 : decode cX6_rest 5 = .ok (.iload_n 1, 1) := by decide +kernel
theorem dX6_rest_6 : decode cX6_rest 6 = .ok (.invokevirtual 82, 3) := by decide +kernel
theorem dX6_rest_9 : decode cX6_rest 9 = .ok (.aload_n 0, 1) := by decide +kernel
theorem dX6_rest_10 : decode cX6_rest 10 = .ok (.getfield 38, 3) := by decide +kernel
theorem dX6_rest_13 : decode cX6_rest 13 = .ok (.iload_n 1, 1) := by decide +kernel
theorem dX6_rest_14 : decode cX6_rest 14 = .ok (.iaload, 1) := by decide +kernel
theorem dX6_rest_15 : decode cX6_rest 15 = .ok (.isub, 1) := by decide +kernel
theorem dX6_rest_16 : decode cX6_rest 16 = .ok (.goto 15, 3) := by decide +kernel
theorem dX6_rest_19 : decode cX6_rest 19 = .ok (.aload_n 0, 1) := by decide +kernel
theorem dX6_rest_20 : decode cX6_rest 20 = .ok (.iload_n 1, 1) := by decide +kernel
theorem dX6_rest_21 : decode cX6_rest 21 = .ok (.invokevirtual 82, 3) := by decide +kernel
theorem dX6_rest_24 : decode cX6_rest 24 = .ok (.aload_n 0, 1) := by decide +kernel
theorem dX6_rest_25 : decode cX6_rest 25 = .ok (.getfield 38, 3) := by decide +kernel
theorem dX6_rest_28 : decode cX6_rest 28 = .ok (.iload_n 1, 1) := by decide +kernel
theorem dX6_rest_29 : decode cX6_rest 29 = .ok (.iaload, 1) := by decide +kernel
theorem dX6_rest_30 : decode cX6_rest 30 = .ok (.iadd, 1) := by decide +kernel
theorem dX6_rest_31 : decode cX6_rest 31 = .ok (.ireturn, 1) := by decide +kernel
set_option maxRecDepth 20000 in
theorem ggX6_reach_X6_first : GoodIn wsX6_reach wsX6_first := goodIn_r _ [7] (by decide +kernel) (by decide +kernel)
set_option maxRecDepth 20000 in
theorem gX6_reach_X6_first : GoodIn wsX6_reach (va_wsS RX6 64 yX6_first wsX6_first) := goodIn_app (goodIn_of _ (by decide +kernel)) ggX6_reach_X6_first
set_option maxRecDepth 20000 in
theorem ggX6_reach_X6_second : GoodIn wsX6_reach wsX6_second := goodIn_r _ [10, 4, 5, 6, 7] (by decide +kernel) (by decide +kernel)
set_option maxRecDepth 20000 in
theorem gX6_reach_X6_second : GoodIn wsX6_reach (va_wsS RX6 86 yX6_second wsX6_second) := goodIn_app (goodIn_of _ (by decide +kernel)) ggX6_reach_X6_second
set_option maxRecDepth 20000 in
theorem ggX6_reach_X6_rest : GoodIn wsX6_reach wsX6_rest := goodIn_r _ [14, 15, 16, 17, 18, 6, 19, 20, 21, 22, 23, 24, 25, 26, 27, 28, 29, 30, 31, 32, 33, 34, 35, 36, 37, 38, 39, 40] (by decide +kernel) (by decide +kernel)
set_option maxRecDepth 20000 in
theorem gX6_reach_X6_rest : GoodIn wsX6_reach (wsV RX6 128 RX6 yX6_rest wsX6_rest) := goodIn_app (goodIn_of _ (by decide +kernel)) ggX6_reach_X6_rest
theorem dX6_reach_0 : decode cX6_reach 0 = .ok (.iconst 0, 1) := by decide +kernel
theorem dX6_reach_1 : decode cX6_reach 1 = .ok (.istore_n 3, 1) := by decide +kernel
theorem dX6_reach_2 : decode cX6_reach 2 = .ok (.iload_n 3, 1) := by decide +kernel
theorem dX6_reach_3 : decode cX6_reach 3 = .ok (.bipush 36, 2) := by decide +kernel
theorem dX6_reach_5 : decode cX6_reach 5 = .ok (.if_icmp .ge 37, 3) := by decide +kernel
theorem dX6_reach_8 : decode cX6_reach 8 = .ok (.aload_n 0, 1) := by decide +kernel
theorem dX6_reach_9 : decode cX6_reach 9 = .ok (.getfield 44, 3) := by decide +kernel
theorem dX6_reach_12 : decode cX6_reach 12 = .ok (.iload_n 3, 1) := by decide +kernel
theorem dX6_reach_13 : decode cX6_reach 13 = .ok (.aload_n 0, 1) := by decide +kernel
theorem dX6_reach_14 : decode cX6_reach 14 = .ok (.getfield 19, 3) := by decide +kernel
theorem dX6_reach_17 : decode cX6_reach 17 = .ok (.iload_n 3, 1) := by decide +kernel
theorem dX6_reach_18 : decode cX6_reach 18 = .ok (.iaload, 1) := by decide +kernel
theorem dX6_reach_19 : decode cX6_reach 19 = .ok (.iload_n 1, 1) := by decide +kernel
theorem dX6_reach_20 : decode cX6_reach 20 = .ok (.if_icmp .ne 7, 3) := by decide +kernel
theorem dX6_reach_23 : decode cX6_reach 23 = .ok (.iconst 1, 1) := by decide +kernel
theorem dX6_reach_24 : decode cX6_reach 24 = .ok (.goto 4, 3) := by decide +kernel
theorem dX6_reach_27 : decode cX6_reach 27 = .ok (.iconst 0, 1) := by decide +kernel
theorem dX6_reach_28 : decode cX6_reach 28 = .ok (.bastore, 1) := by decide +kernel
theorem dX6_reach_29 : decode cX6_reach 29 = .ok (.aload_n 0, 1) := by decide +kernel
theorem dX6_reach_30 : decode cX6_reach 30 = .ok (.getfield 41, 3) := by decide +kernel
theorem dX6_reach_33 : decode cX6_reach 33 = .ok (.iload_n 3, 1) := by decide +kernel
theorem dX6_reach_34 : decode cX6_reach 34 = .ok (.iconst (-1), 1) := by decide +kernel
theorem dX6_reach_35 : decode cX6_reach 35 = .ok (.iastore, 1) := by decide +kernel
theorem dX6_reach_36 : decode cX6_reach 36 = .ok (.iinc 3 1, 3) := by decide +kernel
theorem dX6_reach_39 : decode cX6_reach 39 = .ok (.goto (-37), 3) := by decide +kernel
theorem dX6_reach_42 : decode cX6_reach 42 = .ok (.iconst 1, 1) := by decide +kernel
theorem dX6_reach_43 : decode cX6_reach 43 = .ok (.istore_n 3, 1) := by decide +kernel
theorem dX6_reach_44 : decode cX6_reach 44 = .ok (.iload_n 3, 1) := by decide +kernel
theorem dX6_reach_45 : decode cX6_reach 45 = .ok (.ifCond .eq 159, 3) := by decide +kernel
theorem dX6_reach_48 : decode cX6_reach 48 = .ok (.iconst 0, 1) := by decide +kernel
theorem dX6_reach_49 : decode cX6_reach 49 = .ok (.istore_n 3, 1) := by decide +kernel
theorem dX6_reach_50 : decode cX6_reach 50 = .ok (.iconst 0, 1) := by decide +kernel
theorem dX6_reach_51 : decode cX6_reach 51 = .ok (.istore 4, 2) := by decide +kernel
theorem dX6_reach_53 : decode cX6_reach 53 = .ok (.iload 4, 2) := by decide +kernel
theorem dX6_reach_55 : decode cX6_reach 55 = .ok (.bipush 120, 2) := by decide +kernel
theorem dX6_reach_57 : decode cX6_reach 57 = .ok (.if_icmp .ge 144, 3) := by decide +kernel
theorem dX6_reach_60 : decode cX6_reach 60 = .ok (.iload 4, 2) := by decide +kernel
theorem dX6_reach_62 : decode cX6_reach 62 = .ok (.iconst 2, 1) := by decide +kernel
theorem dX6_reach_63 : decode cX6_reach 63 = .ok (.irem, 1) := by decide +kernel
theorem dX6_reach_64 : decode cX6_reach 64 = .ok (.ifCond .ne 7, 3) := by decide +kernel
theorem dX6_reach_67 : decode cX6_reach 67 = .ok (.iconst 1, 1) := by decide +kernel
theorem dX6_reach_68 : decode cX6_reach 68 = .ok (.goto 4, 3) := by decide +kernel
theorem dX6_reach_71 : decode cX6_reach 71 = .ok (.iconst 0, 1) := by decide +kernel
theorem dX6_reach_72 : decode cX6_reach 72 = .ok (.istore 5, 2) := by decide +kernel
theorem dX6_reach_74 : decode cX6_reach 74 = .ok (.iload 5, 2) := by decide +kernel
theorem dX6_reach_76 : decode cX6_reach 76 = .ok (.ifCond .eq 13, 3) := by decide +kernel
theorem dX6_reach_79 : decode cX6_reach 79 = .ok (.iload 4, 2) := by decide +kernel
theorem dX6_reach_81 : decode cX6_reach 81 = .ok (.iconst 2, 1) := by decide +kernel
theorem dX6_reach_82 : decode cX6_reach 82 = .ok (.idiv, 1) := by decide +kernel
theorem dX6_reach_83 : decode cX6_reach 83 = .ok (.invokestatic 64, 3) := by decide +kernel
theorem dX6_reach_86 : decode cX6_reach 86 = .ok (.goto 10, 3) := by decide +kernel
theorem dX6_reach_89 : decode cX6_reach 89 = .ok (.iload 4, 2) := by decide +kernel
theorem dX6_reach_91 : decode cX6_reach 91 = .ok (.iconst 2, 1) := by decide +kernel
theorem dX6_reach_92 : decode cX6_reach 92 = .ok (.idiv, 1) := by decide +kernel
theorem dX6_reach_93 : decode cX6_reach 93 = .ok (.invokestatic 86, 3) := by decide +kernel
theorem dX6_reach_96 : decode cX6_reach 96 = .ok (.istore 6, 2) := by decide +kernel
theorem dX6_reach_98 : decode cX6_reach 98 = .ok (.iload 5, 2) := by decide +kernel
theorem dX6_reach_100 : decode cX6_reach 100 = .ok (.ifCond .eq 13, 3) := by decide +kernel
theorem dX6_reach_103 : decode cX6_reach 103 = .ok (.iload 4, 2) := by decide +kernel
theorem dX6_reach_105 : decode cX6_reach 105 = .ok (.iconst 2, 1) := by decide +kernel
theorem dX6_reach_106 : decode cX6_reach 106 = .ok (.idiv, 1) := by decide +kernel
theorem dX6_reach_107 : decode cX6_reach 107 = .ok (.invokestatic 86, 3) := by decide +kernel
theorem dX6_reach_110 : decode cX6_reach 110 = .ok (.goto 10, 3) := by decide +kernel
theorem dX6_reach_113 : decode cX6_reach 113 = .ok (.iload 4, 2) := by decide +kernel
theorem dX6_reach_115 : decode cX6_reach 115 = .ok (.iconst 2, 1) := by decide +kernel
theorem dX6_reach_116 : decode cX6_reach 116 = .ok (.idiv, 1) := by decide +kernel
theorem dX6_reach_117 : decode cX6_reach 117 = .ok (.invokestatic 64, 3) := by decide +kernel
theorem dX6_reach_120 : decode cX6_reach 120 = .ok (.istore 7, 2) := by decide +kernel
theorem dX6_reach_122 : decode cX6_reach 122 = .ok (.aload_n 0, 1) := by decide +kernel
theorem dX6_reach_123 : decode cX6_reach 123 = .ok (.getfield 44, 3) := by decide +kernel
theorem dX6_reach_126 : decode cX6_reach 126 = .ok (.iload 6, 2) := by decide +kernel
theorem dX6_reach_128 : decode cX6_reach 128 = .ok (.baload, 1) := by decide +kernel
theorem dX6_reach_129 : decode cX6_reach 129 = .ok (.ifCond .eq 39, 3) := by decide +kernel
theorem dX6_reach_132 : decode cX6_reach 132 = .ok (.aload_n 0, 1) := by decide +kernel
theorem dX6_reach_133 : decode cX6_reach 133 = .ok (.getfield 44, 3) := by decide +kernel
theorem dX6_reach_136 : decode cX6_reach 136 = .ok (.iload 7, 2) := by decide +kernel
theorem dX6_reach_138 : decode cX6_reach 138 = .ok (.baload, 1) := by decide +kernel
theorem dX6_reach_139 : decode cX6_reach 139 = .ok (.ifCond .ne 29, 3) := by decide +kernel
theorem dX6_reach_142 : decode cX6_reach 142 = .ok (.aload_n 0, 1) := by decide +kernel
theorem dX6_reach_143 : decode cX6_reach 143 = .ok (.iload 4, 2) := by decide +kernel
theorem dX6_reach_145 : decode cX6_reach 145 = .ok (.iconst 2, 1) := by decide +kernel
theorem dX6_reach_146 : decode cX6_reach 146 = .ok (.idiv, 1) := by decide +kernel
theorem dX6_reach_147 : decode cX6_reach 147 = .ok (.iload 5, 2) := by decide +kernel
theorem dX6_reach_149 : decode cX6_reach 149 = .ok (.iload_n 2, 1) := by decide +kernel
theorem dX6_reach_150 : decode cX6_reach 150 = .ok (.if_icmp .ne 7, 3) := by decide +kernel
theorem dX6_reach_153 : decode cX6_reach 153 = .ok (.iconst 1, 1) := by decide +kernel
theorem dX6_reach_154 : decode cX6_reach 154 = .ok (.goto 4, 3) := by decide +kernel
theorem dX6_reach_157 : decode cX6_reach 157 = .ok (.iconst 0, 1) := by decide +kernel
theorem dX6_reach_158 : decode cX6_reach 158 = .ok (.invokevirtual 128, 3) := by decide +kernel
theorem dX6_reach_161 : decode cX6_reach 161 = .ok (.ifCond .le 7, 3) := by decide +kernel
theorem dX6_reach_164 : decode cX6_reach 164 = .ok (.iconst 1, 1) := by decide +kernel
theorem dX6_reach_165 : decode cX6_reach 165 = .ok (.goto 4, 3) := by decide +kernel
theorem dX6_reach_168 : decode cX6_reach 168 = .ok (.iconst 0, 1) := by decide +kernel
theorem dX6_reach_169 : decode cX6_reach 169 = .ok (.istore 8, 2) := by decide +kernel
theorem dX6_reach_171 : decode cX6_reach 171 = .ok (.iload 8, 2) := by decide +kernel
theorem dX6_reach_173 : decode cX6_reach 173 = .ok (.ifCond .eq 22, 3) := by decide +kernel
theorem dX6_reach_176 : decode cX6_reach 176 = .ok (.aload_n 0, 1) := by decide +kernel
theorem dX6_reach_177 : decode cX6_reach 177 = .ok (.getfield 44, 3) := by decide +kernel
theorem dX6_reach_180 : decode cX6_reach 180 = .ok (.iload 7, 2) := by decide +kernel
theorem dX6_reach_182 : decode cX6_reach 182 = .ok (.iconst 1, 1) := by decide +kernel
theorem dX6_reach_183 : decode cX6_reach 183 = .ok (.bastore, 1) := by decide +kernel
theorem dX6_reach_184 : decode cX6_reach 184 = .ok (.aload_n 0, 1) := by decide +kernel
theorem dX6_reach_185 : decode cX6_reach 185 = .ok (.getfield 41, 3) := by decide +kernel
theorem dX6_reach_188 : decode cX6_reach 188 = .ok (.iload 7, 2) := by decide +kernel
theorem dX6_reach_190 : decode cX6_reach 190 = .ok (.iload 4, 2) := by decide +kernel
theorem dX6_reach_192 : decode cX6_reach 192 = .ok (.iastore, 1) := by decide +kernel
theorem dX6_reach_193 : decode cX6_reach 193 = .ok (.iconst 1, 1) := by decide +kernel
theorem dX6_reach_194 : decode cX6_reach 194 = .ok (.istore_n 3, 1) := by decide +kernel
theorem dX6_reach_195 : decode cX6_reach 195 = .ok (.iinc 4 1, 3) := by decide +kernel
theorem dX6_reach_198 : decode cX6_reach 198 = .ok (.goto (-145), 3) := by decide +kernel
theorem dX6_reach_201 : decode cX6_reach 201 = .ok (.goto (-157), 3) := by decide +kernel
theorem dX6_reach_204 : decode cX6_reach 204 = .ok (.return_, 1) := by decide +kernel
theorem dX6_reachedOutside_0 : decode cX6_reachedOutside 0 = .ok (.iconst (-1), 1) := by decide +kernel
theorem dX6_reachedOutside_1 : decode cX6_reachedOutside 1 = .ok (.istore_n 1, 1) := by decide +kernel
theorem dX6_reachedOutside_2 : decode cX6_reachedOutside 2 = .ok (.iconst 0, 1) := by decide +kernel
theorem dX6_reachedOutside_3 : decode cX6_reachedOutside 3 = .ok (.istore_n 2, 1) := by decide +kernel
theorem dX6_reachedOutside_4 : decode cX6_reachedOutside 4 = .ok (.iload_n 2, 1) := by decide +kernel
theorem dX6_reachedOutside_5 : decode cX6_reachedOutside 5 = .ok (.bipush 36, 2) := by decide +kernel
theorem dX6_reachedOutside_7 : decode cX6_reachedOutside 7 = .ok (.if_icmp .ge 34, 3) := by decide +kernel
theorem dX6_reachedOutside_10 : decode cX6_reachedOutside 10 = .ok (.aload_n 0, 1) := by decide +kernel
theorem dX6_reachedOutside_11 : decode cX6_reachedOutside 11 = .ok (.getfield 44, 3) := by decide +kernel
theorem dX6_reachedOutside_14 : decode cX6_reachedOutside 14 = .ok (.iload_n 2, 1) := by decide +kernel
theorem dX6_reachedOutside_15 : decode cX6_reachedOutside 15 = .ok (.baload, 1) := by decide +kernel
theorem dX6_reachedOutside_16 : decode cX6_reachedOutside 16 = .ok (.ifCond .eq 17, 3) := by decide +kernel
theorem dX6_reachedOutside_19 : decode cX6_reachedOutside 19 = .ok (.aload_n 0, 1) := by decide +kernel
theorem dX6_reachedOutside_20 : decode cX6_reachedOutside 20 = .ok (.getfield 19, 3) := by decide +kernel
theorem dX6_reachedOutside_23 : decode cX6_reachedOutside 23 = .ok (.iload_n 2, 1) := by decide +kernel
theorem dX6_reachedOutside_24 : decode cX6_reachedOutside 24 = .ok (.iaload, 1) := by decide +kernel
theorem dX6_reachedOutside_25 : decode cX6_reachedOutside 25 = .ok (.iconst 2, 1) := by decide +kernel
theorem dX6_reachedOutside_26 : decode cX6_reachedOutside 26 = .ok (.if_icmp .ne 7, 3) := by decide +kernel
theorem dX6_reachedOutside_29 : decode cX6_reachedOutside 29 = .ok (.iload_n 2, 1) := by decide +kernel
theorem dX6_reachedOutside_30 : decode cX6_reachedOutside 30 = .ok (.goto 4, 3) := by decide +kernel
theorem dX6_reachedOutside_33 : decode cX6_reachedOutside 33 = .ok (.iload_n 1, 1) := by decide +kernel
theorem dX6_reachedOutside_34 : decode cX6_reachedOutside 34 = .ok (.istore_n 1, 1) := by decide +kernel
theorem dX6_reachedOutside_35 : decode cX6_reachedOutside 35 = .ok (.iinc 2 1, 3) := by decide +kernel
theorem dX6_reachedOutside_38 : decode cX6_reachedOutside 38 = .ok (.goto (-34), 3) := by decide +kernel
theorem dX6_reachedOutside_41 : decode cX6_reachedOutside 41 = .ok (.iload_n 1, 1) := by decide +kernel
theorem dX6_reachedOutside_42 : decode cX6_reachedOutside 42 = .ok (.ireturn, 1) := by decide +kernel
set_option maxRecDepth 20000 in
theorem ggX6_push_X6_first : GoodIn wsX6_push wsX6_first := goodIn_r _ [6] (by decide +kernel) (by decide +kernel)
set_option maxRecDepth 20000 in
theorem gX6_push_X6_first : GoodIn wsX6_push (va_wsS RX6 64 yX6_first wsX6_first) := goodIn_app (goodIn_of _ (by decide +kernel)) ggX6_push_X6_first
set_option maxRecDepth 20000 in
theorem ggX6_push_X6_second : GoodIn wsX6_push wsX6_second := goodIn_r _ [9, 3, 4, 5, 6] (by decide +kernel) (by decide +kernel)
set_option maxRecDepth 20000 in
theorem gX6_push_X6_second : GoodIn wsX6_push (va_wsS RX6 86 yX6_second wsX6_second) := goodIn_app (goodIn_of _ (by decide +kernel)) ggX6_push_X6_second
theorem dX6_push_0 : decode cX6_push 0 = .ok (.iload_n 1, 1) := by decide +kernel
theorem dX6_push_1 : decode cX6_push 1 = .ok (.istore_n 2, 1) := by decide +kernel
theorem dX6_push_2 : decode cX6_push 2 = .ok (.aload_n 0, 1) := by decide +kernel
theorem dX6_push_3 : decode cX6_push 3 = .ok (.getfield 41, 3) := by decide +kernel
theorem dX6_push_6 : decode cX6_push 6 = .ok (.iload_n 2, 1) := by decide +kernel
theorem dX6_push_7 : decode cX6_push 7 = .ok (.iaload, 1) := by decide +kernel
theorem dX6_push_8 : decode cX6_push 8 = .ok (.iconst (-1), 1) := by decide +kernel
theorem dX6_push_9 : decode cX6_push 9 = .ok (.if_icmp .eq 57, 3) := by decide +kernel
theorem dX6_push_12 : decode cX6_push 12 = .ok (.aload_n 0, 1) := by decide +kernel
theorem dX6_push_13 : decode cX6_push 13 = .ok (.getfield 41, 3) := by decide +kernel
theorem dX6_push_16 : decode cX6_push 16 = .ok (.iload_n 2, 1) := by decide +kernel
theorem dX6_push_17 : decode cX6_push 17 = .ok (.iaload, 1) := by decide +kernel
theorem dX6_push_18 : decode cX6_push 18 = .ok (.istore_n 3, 1) := by decide +kernel
theorem dX6_push_19 : decode cX6_push 19 = .ok (.aload_n 0, 1) := by decide +kernel
theorem dX6_push_20 : decode cX6_push 20 = .ok (.getfield 38, 3) := by decide +kernel
theorem dX6_push_23 : decode cX6_push 23 = .ok (.iload_n 3, 1) := by decide +kernel
theorem dX6_push_24 : decode cX6_push 24 = .ok (.iconst 2, 1) := by decide +kernel
theorem dX6_push_25 : decode cX6_push 25 = .ok (.idiv, 1) := by decide +kernel
theorem dX6_push_26 : decode cX6_push 26 = .ok (.dup2, 1) := by decide +kernel
theorem dX6_push_27 : decode cX6_push 27 = .ok (.iaload, 1) := by decide +kernel
theorem dX6_push_28 : decode cX6_push 28 = .ok (.iload_n 3, 1) := by decide +kernel
theorem dX6_push_29 : decode cX6_push 29 = .ok (.iconst 2, 1) := by decide +kernel
theorem dX6_push_30 : decode cX6_push 30 = .ok (.irem, 1) := by decide +kernel
theorem dX6_push_31 : decode cX6_push 31 = .ok (.ifCond .ne 7, 3) := by decide +kernel
theorem dX6_push_34 : decode cX6_push 34 = .ok (.iconst 1, 1) := by decide +kernel
theorem dX6_push_35 : decode cX6_push 35 = .ok (.goto 4, 3) := by decide +kernel
theorem dX6_push_38 : decode cX6_push 38 = .ok (.iconst (-1), 1) := by decide +kernel
theorem dX6_push_39 : decode cX6_push 39 = .ok (.iadd, 1) := by decide +kernel
theorem dX6_push_40 : decode cX6_push 40 = .ok (.iastore, 1) := by decide +kernel
theorem dX6_push_41 : decode cX6_push 41 = .ok (.iload_n 3, 1) := by decide +kernel
theorem dX6_push_42 : decode cX6_push 42 = .ok (.iconst 2, 1) := by decide +kernel
theorem dX6_push_43 : decode cX6_push 43 = .ok (.irem, 1) := by decide +kernel
theorem dX6_push_44 : decode cX6_push 44 = .ok (.ifCond .ne 12, 3) := by decide +kernel
theorem dX6_push_47 : decode cX6_push 47 = .ok (.iload_n 3, 1) := by decide +kernel
theorem dX6_push_48 : decode cX6_push 48 = .ok (.iconst 2, 1) := by decide +kernel
theorem dX6_push_49 : decode cX6_push 49 = .ok (.idiv, 1) := by decide +kernel
theorem dX6_push_50 : decode cX6_push 50 = .ok (.invokestatic 64, 3) := by decide +kernel
theorem dX6_push_53 : decode cX6_push 53 = .ok (.goto 9, 3) := by decide +kernel
theorem dX6_push_56 : decode cX6_push 56 = .ok (.iload_n 3, 1) := by decide +kernel
theorem dX6_push_57 : decode cX6_push 57 = .ok (.iconst 2, 1) := by decide +kernel
theorem dX6_push_58 : decode cX6_push 58 = .ok (.idiv, 1) := by decide +kernel
theorem dX6_push_59 : decode cX6_push 59 = .ok (.invokestatic 86, 3) := by decide +kernel
theorem dX6_push_62 : decode cX6_push 62 = .ok (.istore_n 2, 1) := by decide +kernel
theorem dX6_push_63 : decode cX6_push 63 = .ok (.goto (-61), 3) := by decide +kernel
theorem dX6_push_66 : decode cX6_push 66 = .ok (.return_, 1) := by decide +kernel
set_option maxRecDepth 20000 in
theorem ggX6_greatestFlow_X6_reach : GoodIn wsX6_greatestFlow wsX6_reach := goodIn_r _ [6, 7, 8, 9, 10, 11, 5, 12, 13, 14, 15, 16, 17, 18, 19, 1, 20, 21, 22, 23, 24, 25, 34, 35, 36, 37, 38, 39, 40, 41, 42, 43, 44, 45, 46, 47, 48, 49, 50, 51, 52] (by decide +kernel) (by decide +kernel)
set_option maxRecDepth 20000 in
theorem gX6_greatestFlow_X6_reach : GoodIn wsX6_greatestFlow (wsV RX6 131 RX6 yX6_reach wsX6_reach) := goodIn_app (goodIn_of _ (by decide +kernel)) ggX6_greatestFlow_X6_reach
set_option maxRecDepth 20000 in
theorem ggX6_greatestFlow_X6_reachedOutside : GoodIn wsX6_greatestFlow wsX6_reachedOutside := goodIn_r _ [29, 7, 8, 34, 35, 36, 37, 38, 39, 40, 41, 42, 43, 44, 45, 46, 47, 48, 49, 50, 51, 52] (by decide +kernel) (by decide +kernel)
set_option maxRecDepth 20000 in
theorem gX6_greatestFlow_X6_reachedOutside : GoodIn wsX6_greatestFlow (wsV RX6 135 RX6 yX6_reachedOutside wsX6_reachedOutside) := goodIn_app (goodIn_of _ (by decide +kernel)) ggX6_greatestFlow_X6_reachedOutside
set_option maxRecDepth 20000 in
theorem ggX6_greatestFlow_X6_push : GoodIn wsX6_greatestFlow wsX6_push := goodIn_r _ [33, 9, 1, 10, 11, 5, 12, 13, 14, 15, 34, 35, 36, 37, 38, 39, 40, 41, 42, 43, 44, 45, 46, 47, 48, 49, 50, 51, 52] (by decide +kernel) (by decide +kernel)
set_option maxRecDepth 20000 in
theorem gX6_greatestFlow_X6_push : GoodIn wsX6_greatestFlow (wsV RX6 138 RX6 yX6_push wsX6_push) := goodIn_app (goodIn_of _ (by decide +kernel)) ggX6_greatestFlow_X6_push
theorem dX6_greatestFlow_0 : decode cX6_greatestFlow 0 = .ok (.iconst 0, 1) := by decide +kernel
theorem dX6_greatestFlow_1 : decode cX6_greatestFlow 1 = .ok (.istore_n 1, 1) := by decide +kernel
theorem dX6_greatestFlow_2 : decode cX6_greatestFlow 2 = .ok (.iload_n 1, 1) := by decide +kernel
theorem dX6_greatestFlow_3 : decode cX6_greatestFlow 3 = .ok (.bipush 60, 2) := by decide +kernel
theorem dX6_greatestFlow_5 : decode cX6_greatestFlow 5 = .ok (.if_icmp .ge 16, 3) := by decide +kernel
theorem dX6_greatestFlow_8 : decode cX6_greatestFlow 8 = .ok (.aload_n 0, 1) := by decide +kernel
theorem dX6_greatestFlow_9 : decode cX6_greatestFlow 9 = .ok (.getfield 38, 3) := by decide +kernel
theorem dX6_greatestFlow_12 : decode cX6_greatestFlow 12 = .ok (.iload_n 1, 1) := by decide +kernel
theorem dX6_greatestFlow_13 : decode cX6_greatestFlow 13 = .ok (.iconst 0, 1) := by decide +kernel
theorem dX6_greatestFlow_14 : decode cX6_greatestFlow 14 = .ok (.iastore, 1) := by decide +kernel
theorem dX6_greatestFlow_15 : decode cX6_greatestFlow 15 = .ok (.iinc 1 1, 3) := by decide +kernel
theorem dX6_greatestFlow_18 : decode cX6_greatestFlow 18 = .ok (.goto (-16), 3) := by decide +kernel
theorem dX6_greatestFlow_21 : decode cX6_greatestFlow 21 = .ok (.iconst 0, 1) := by decide +kernel
theorem dX6_greatestFlow_22 : decode cX6_greatestFlow 22 = .ok (.istore_n 1, 1) := by decide +kernel
theorem dX6_greatestFlow_23 : decode cX6_greatestFlow 23 = .ok (.aload_n 0, 1) := by decide +kernel
theorem dX6_greatestFlow_24 : decode cX6_greatestFlow 24 = .ok (.iconst 1, 1) := by decide +kernel
theorem dX6_greatestFlow_25 : decode cX6_greatestFlow 25 = .ok (.iconst 1, 1) := by decide +kernel
theorem dX6_greatestFlow_26 : decode cX6_greatestFlow 26 = .ok (.invokevirtual 131, 3) := by decide +kernel
theorem dX6_greatestFlow_29 : decode cX6_greatestFlow 29 = .ok (.aload_n 0, 1) := by decide +kernel
theorem dX6_greatestFlow_30 : decode cX6_greatestFlow 30 = .ok (.invokevirtual 135, 3) := by decide +kernel
theorem dX6_greatestFlow_33 : decode cX6_greatestFlow 33 = .ok (.istore_n 2, 1) := by decide +kernel
theorem dX6_greatestFlow_34 : decode cX6_greatestFlow 34 = .ok (.iload_n 2, 1) := by decide +kernel
theorem dX6_greatestFlow_35 : decode cX6_greatestFlow 35 = .ok (.iconst (-1), 1) := by decide +kernel
theorem dX6_greatestFlow_36 : decode cX6_greatestFlow 36 = .ok (.if_icmp .eq 25, 3) := by decide +kernel
theorem dX6_greatestFlow_39 : decode cX6_greatestFlow 39 = .ok (.aload_n 0, 1) := by decide +kernel
theorem dX6_greatestFlow_40 : decode cX6_greatestFlow 40 = .ok (.iload_n 2, 1) := by decide +kernel
theorem dX6_greatestFlow_41 : decode cX6_greatestFlow 41 = .ok (.invokevirtual 138, 3) := by decide +kernel
theorem dX6_greatestFlow_44 : decode cX6_greatestFlow 44 = .ok (.iinc 1 1, 3) := by decide +kernel
theorem dX6_greatestFlow_47 : decode cX6_greatestFlow 47 = .ok (.aload_n 0, 1) := by decide +kernel
theorem dX6_greatestFlow_48 : decode cX6_greatestFlow 48 = .ok (.iconst 1, 1) := by decide +kernel
theorem dX6_greatestFlow_49 : decode cX6_greatestFlow 49 = .ok (.iconst 1, 1) := by decide +kernel
theorem dX6_greatestFlow_50 : decode cX6_greatestFlow 50 = .ok (.invokevirtual 131, 3) := by decide +kernel
theorem dX6_greatestFlow_53 : decode cX6_greatestFlow 53 = .ok (.aload_n 0, 1) := by decide +kernel
theorem dX6_greatestFlow_54 : decode cX6_greatestFlow 54 = .ok (.invokevirtual 135, 3) := by decide +kernel
theorem dX6_greatestFlow_57 : decode cX6_greatestFlow 57 = .ok (.istore_n 2, 1) := by decide +kernel
theorem dX6_greatestFlow_58 : decode cX6_greatestFlow 58 = .ok (.goto (-24), 3) := by decide +kernel
theorem dX6_greatestFlow_61 : decode cX6_greatestFlow 61 = .ok (.iload_n 1, 1) := by decide +kernel
theorem dX6_greatestFlow_62 : decode cX6_greatestFlow 62 = .ok (.ireturn, 1) := by decide +kernel
set_option maxRecDepth 20000 in
theorem ggX6_film_X6_greatestFlow : GoodIn wsX6_film wsX6_greatestFlow := goodIn_r _ [6, 7, 8, 9, 10, 5, 11, 12, 13, 14, 15, 16, 17, 18, 19, 20, 21, 22, 23, 24, 25, 26, 27, 28, 29, 30, 31, 32, 33, 34, 35, 36, 37, 38, 39, 40, 41, 42, 43, 44, 45, 46, 47, 48, 49, 50, 51, 52, 53, 54, 55, 56, 57] (by decide +kernel) (by decide +kernel)
set_option maxRecDepth 20000 in
theorem gX6_film_X6_greatestFlow : GoodIn wsX6_film (wsV RX6 141 RX6 yX6_greatestFlow wsX6_greatestFlow) := goodIn_app (goodIn_of _ (by decide +kernel)) ggX6_film_X6_greatestFlow
theorem dX6_film_0 : decode cX6_film 0 = .ok (.aload_n 0, 1) := by decide +kernel
theorem dX6_film_1 : decode cX6_film 1 = .ok (.iconst 0, 1) := by decide +kernel
theorem dX6_film_2 : decode cX6_film 2 = .ok (.putfield 57, 3) := by decide +kernel
theorem dX6_film_5 : decode cX6_film 5 = .ok (.aload_n 0, 1) := by decide +kernel
theorem dX6_film_6 : decode cX6_film 6 = .ok (.invokevirtual 141, 3) := by decide +kernel
theorem dX6_film_9 : decode cX6_film 9 = .ok (.ireturn, 1) := by decide +kernel
set_option maxRecDepth 20000 in
theorem ggX6_proof_X6_greatestFlow : GoodIn wsX6_proof wsX6_greatestFlow := goodIn_r _ [6, 7, 8, 9, 10, 5, 11, 12, 13, 14, 15, 16, 17, 18, 19, 20, 21, 22, 23, 24, 25, 26, 27, 28, 29, 30, 31, 32, 33, 34, 35, 36, 37, 38, 39, 40, 41, 42, 43, 44, 45, 46, 47, 48, 49, 50, 51, 52, 53, 54, 55, 56, 57] (by decide +kernel) (by decide +kernel)
set_option maxRecDepth 20000 in
theorem gX6_proof_X6_greatestFlow : GoodIn wsX6_proof (wsV RX6 141 RX6 yX6_greatestFlow wsX6_greatestFlow) := goodIn_app (goodIn_of _ (by decide +kernel)) ggX6_proof_X6_greatestFlow
theorem dX6_proof_0 : decode cX6_proof 0 = .ok (.aload_n 0, 1) := by decide +kernel
theorem dX6_proof_1 : decode cX6_proof 1 = .ok (.iconst 0, 1) := by decide +kernel
theorem dX6_proof_2 : decode cX6_proof 2 = .ok (.putfield 57, 3) := by decide +kernel
theorem dX6_proof_5 : decode cX6_proof 5 = .ok (.aload_n 0, 1) := by decide +kernel
theorem dX6_proof_6 : decode cX6_proof 6 = .ok (.invokevirtual 141, 3) := by decide +kernel
theorem dX6_proof_9 : decode cX6_proof 9 = .ok (.ireturn, 1) := by decide +kernel
set_option maxRecDepth 20000 in
theorem ggX6_side_X6_greatestFlow : GoodIn wsX6_side wsX6_greatestFlow := goodIn_r _ [7, 8, 9, 10, 11, 6, 12, 2, 13, 14, 15, 16, 17, 18, 19, 20, 21, 22, 23, 24, 25, 26, 27, 28, 29, 30, 31, 32, 33, 34, 35, 36, 37, 38, 39, 40, 41, 42, 43, 44, 45, 46, 47, 48, 49, 50, 51, 52, 53, 54, 55, 56, 57] (by decide +kernel) (by decide +kernel)
set_option maxRecDepth 20000 in
theorem gX6_side_X6_greatestFlow : GoodIn wsX6_side (wsV RX6 141 RX6 yX6_greatestFlow wsX6_greatestFlow) := goodIn_app (goodIn_of _ (by decide +kernel)) ggX6_side_X6_greatestFlow
set_option maxRecDepth 20000 in
theorem ggX6_side_X6_reach : GoodIn wsX6_side wsX6_reach := goodIn_r _ [12, 2, 13, 14, 15, 16, 6, 17, 18, 19, 20, 21, 22, 23, 24, 8, 25, 26, 27, 28, 29, 30, 39, 40, 41, 42, 43, 44, 45, 46, 47, 48, 49, 50, 51, 52, 53, 54, 55, 56, 57] (by decide +kernel) (by decide +kernel)
set_option maxRecDepth 20000 in
theorem gX6_side_X6_reach : GoodIn wsX6_side (wsV RX6 131 RX6 yX6_reach wsX6_reach) := goodIn_app (goodIn_of _ (by decide +kernel)) ggX6_side_X6_reach
theorem dX6_side_0 : decode cX6_side 0 = .ok (.aload_n 0, 1) := by decide +kernel
theorem dX6_side_1 : decode cX6_side 1 = .ok (.iconst 0, 1) := by decide +kernel
theorem dX6_side_2 : decode cX6_side 2 = .ok (.putfield 57, 3) := by decide +kernel
theorem dX6_side_5 : decode cX6_side 5 = .ok (.aload_n 0, 1) := by decide +kernel
theorem dX6_side_6 : decode cX6_side 6 = .ok (.invokevirtual 141, 3) := by decide +kernel
theorem dX6_side_9 : decode cX6_side 9 = .ok (.pop, 1) := by decide +kernel
theorem dX6_side_10 : decode cX6_side 10 = .ok (.aload_n 0, 1) := by decide +kernel
theorem dX6_side_11 : decode cX6_side 11 = .ok (.iload_n 1, 1) := by decide +kernel
theorem dX6_side_12 : decode cX6_side 12 = .ok (.ifCond .eq 7, 3) := by decide +kernel
theorem dX6_side_15 : decode cX6_side 15 = .ok (.iconst 2, 1) := by decide +kernel
theorem dX6_side_16 : decode cX6_side 16 = .ok (.goto 4, 3) := by decide +kernel
theorem dX6_side_19 : decode cX6_side 19 = .ok (.iconst 1, 1) := by decide +kernel
theorem dX6_side_20 : decode cX6_side 20 = .ok (.iload_n 1, 1) := by decide +kernel
theorem dX6_side_21 : decode cX6_side 21 = .ok (.ifCond .ne 7, 3) := by decide +kernel
theorem dX6_side_24 : decode cX6_side 24 = .ok (.iconst 1, 1) := by decide +kernel
theorem dX6_side_25 : decode cX6_side 25 = .ok (.goto 4, 3) := by decide +kernel
theorem dX6_side_28 : decode cX6_side 28 = .ok (.iconst 0, 1) := by decide +kernel
theorem dX6_side_29 : decode cX6_side 29 = .ok (.invokevirtual 131, 3) := by decide +kernel
theorem dX6_side_32 : decode cX6_side 32 = .ok (.lconst 0, 1) := by decide +kernel
theorem dX6_side_33 : decode cX6_side 33 = .ok (.lstore_n 2, 1) := by decide +kernel
theorem dX6_side_34 : decode cX6_side 34 = .ok (.iconst 0, 1) := by decide +kernel
theorem dX6_side_35 : decode cX6_side 35 = .ok (.istore 4, 2) := by decide +kernel
theorem dX6_side_37 : decode cX6_side 37 = .ok (.iload 4, 2) := by decide +kernel
theorem dX6_side_39 : decode cX6_side 39 = .ok (.bipush 36, 2) := by decide +kernel
theorem dX6_side_41 : decode cX6_side 41 = .ok (.if_icmp .ge 31, 3) := by decide +kernel
theorem dX6_side_44 : decode cX6_side 44 = .ok (.lload_n 2, 1) := by decide +kernel
theorem dX6_side_45 : decode cX6_side 45 = .ok (.aload_n 0, 1) := by decide +kernel
theorem dX6_side_46 : decode cX6_side 46 = .ok (.getfield 44, 3) := by decide +kernel
theorem dX6_side_49 : decode cX6_side 49 = .ok (.iload 4, 2) := by decide +kernel
theorem dX6_side_51 : decode cX6_side 51 = .ok (.baload, 1) := by decide +kernel
theorem dX6_side_52 : decode cX6_side 52 = .ok (.iload_n 1, 1) := by decide +kernel
theorem dX6_side_53 : decode cX6_side 53 = .ok (.if_icmp .eq 10, 3) := by decide +kernel
theorem dX6_side_56 : decode cX6_side 56 = .ok (.lconst 1, 1) := by decide +kernel
theorem dX6_side_57 : decode cX6_side 57 = .ok (.iload 4, 2) := by decide +kernel
theorem dX6_side_59 : decode cX6_side 59 = .ok (.lshl, 1) := by decide +kernel
theorem dX6_side_60 : decode cX6_side 60 = .ok (.goto 4, 3) := by decide +kernel
theorem dX6_side_63 : decode cX6_side 63 = .ok (.lconst 0, 1) := by decide +kernel
theorem dX6_side_64 : decode cX6_side 64 = .ok (.lor, 1) := by decide +kernel
theorem dX6_side_65 : decode cX6_side 65 = .ok (.lstore_n 2, 1) := by decide +kernel
theorem dX6_side_66 : decode cX6_side 66 = .ok (.iinc 4 1, 3) := by decide +kernel
theorem dX6_side_69 : decode cX6_side 69 = .ok (.goto (-32), 3) := by decide +kernel
theorem dX6_side_72 : decode cX6_side 72 = .ok (.lload_n 2, 1) := by decide +kernel
theorem dX6_side_73 : decode cX6_side 73 = .ok (.lreturn, 1) := by decide +kernel
set_option maxRecDepth 20000 in
theorem ggX6_costOf_X6_refused : GoodIn wsX6_costOf wsX6_refused := goodIn_r _ [7, 8, 21, 22, 23, 24, 25, 26, 27, 28, 29, 30, 31, 32, 33, 34, 35, 36, 37, 38, 39] (by decide +kernel) (by decide +kernel)
set_option maxRecDepth 20000 in
theorem gX6_costOf_X6_refused : GoodIn wsX6_costOf (wsV RX6 68 RX6 yX6_refused wsX6_refused) := goodIn_app (goodIn_of _ (by decide +kernel)) ggX6_costOf_X6_refused
set_option maxRecDepth 20000 in
theorem ggX6_costOf_X6_first : GoodIn wsX6_costOf wsX6_first := goodIn_r _ [11] (by decide +kernel) (by decide +kernel)
set_option maxRecDepth 20000 in
theorem gX6_costOf_X6_first : GoodIn wsX6_costOf (va_wsS RX6 64 yX6_first wsX6_first) := goodIn_app (goodIn_of _ (by decide +kernel)) ggX6_costOf_X6_first
set_option maxRecDepth 20000 in
theorem ggX6_costOf_X6_second : GoodIn wsX6_costOf wsX6_second := goodIn_r _ [14, 9, 10, 6, 11] (by decide +kernel) (by decide +kernel)
set_option maxRecDepth 20000 in
theorem gX6_costOf_X6_second : GoodIn wsX6_costOf (va_wsS RX6 86 yX6_second wsX6_second) := goodIn_app (goodIn_of _ (by decide +kernel)) ggX6_costOf_X6_second
set_option maxRecDepth 20000 in
theorem ggX6_costOf_X6_costOfEdge : GoodIn wsX6_costOf wsX6_costOfEdge := goodIn_r _ [18, 19, 20, 21, 22, 23, 24, 25, 26, 27, 28, 29, 30, 31, 32, 33, 34, 35, 36, 37, 38, 39] (by decide +kernel) (by decide +kernel)
set_option maxRecDepth 20000 in
theorem gX6_costOf_X6_costOfEdge : GoodIn wsX6_costOf (wsV RX6 82 RX6 yX6_costOfEdge wsX6_costOfEdge) := goodIn_app (goodIn_of _ (by decide +kernel)) ggX6_costOf_X6_costOfEdge
theorem dX6_costOf_0 : decode cX6_costOf 0 = .ok (.aload_n 0, 1) := by decide +kernel
theorem dX6_costOf_1 : decode cX6_costOf 1 = .ok (.lload_n 1, 1) := by decide +kernel
theorem dX6_costOf_2 : decode cX6_costOf 2 = .ok (.lconst 0, 1) := by decide +kernel
theorem dX6_costOf_3 : decode cX6_costOf 3 = .ok (.lcmp, 1) := by decide +kernel
theorem dX6_costOf_4 : decode cX6_costOf 4 = .ok (.ifCond .lt 15, 3) := by decide +kernel
theorem dX6_costOf_7 : decode cX6_costOf 7 = .ok (.lload_n 1, 1) := by decide +kernel
theorem dX6_costOf_8 : decode cX6_costOf 8 = .ok (.ldc2_w 144, 3) := by decide +kernel
theorem dX6_costOf_11 : decode cX6_costOf 11 = .ok (.lcmp, 1) := by decide +kernel
theorem dX6_costOf_12 : decode cX6_costOf 12 = .ok (.ifCond .ge 7, 3) := by decide +kernel
theorem dX6_costOf_15 : decode cX6_costOf 15 = .ok (.iconst 0, 1) := by decide +kernel
theorem dX6_costOf_16 : decode cX6_costOf 16 = .ok (.goto 4, 3) := by decide +kernel
theorem dX6_costOf_19 : decode cX6_costOf 19 = .ok (.iconst 1, 1) := by decide +kernel
theorem dX6_costOf_20 : decode cX6_costOf 20 = .ok (.invokevirtual 68, 3) := by decide +kernel
theorem dX6_costOf_23 : decode cX6_costOf 23 = .ok (.ifCond .eq 5, 3) := by decide +kernel
theorem dX6_costOf_26 : decode cX6_costOf 26 = .ok (.iconst 0, 1) := by decide +kernel
theorem dX6_costOf_27 : decode cX6_costOf 27 = .ok (.ireturn, 1) := by decide +kernel
theorem dX6_costOf_28 : decode cX6_costOf 28 = .ok (.iconst 1, 1) := by decide +kernel
theorem dX6_costOf_29 : decode cX6_costOf 29 = .ok (.istore_n 3, 1) := by decide +kernel
theorem dX6_costOf_30 : decode cX6_costOf 30 = .ok (.iconst 0, 1) := by decide +kernel
theorem dX6_costOf_31 : decode cX6_costOf 31 = .ok (.istore 4, 2) := by decide +kernel
theorem dX6_costOf_33 : decode cX6_costOf 33 = .ok (.iload 4, 2) := by decide +kernel
theorem dX6_costOf_35 : decode cX6_costOf 35 = .ok (.bipush 36, 2) := by decide +kernel
theorem dX6_costOf_37 : decode cX6_costOf 37 = .ok (.if_icmp .ge 57, 3) := by decide +kernel
theorem dX6_costOf_40 : decode cX6_costOf 40 = .ok (.lload_n 1, 1) := by decide +kernel
theorem dX6_costOf_41 : decode cX6_costOf 41 = .ok (.iload 4, 2) := by decide +kernel
theorem dX6_costOf_43 : decode cX6_costOf 43 = .ok (.lshr, 1) := by decide +kernel
theorem dX6_costOf_44 : decode cX6_costOf 44 = .ok (.lconst 1, 1) := by decide +kernel
theorem dX6_costOf_45 : decode cX6_costOf 45 = .ok (.land, 1) := by decide +kernel
theorem dX6_costOf_46 : decode cX6_costOf 46 = .ok (.lconst 1, 1) := by decide +kernel
theorem dX6_costOf_47 : decode cX6_costOf 47 = .ok (.lcmp, 1) := by decide +kernel
theorem dX6_costOf_48 : decode cX6_costOf 48 = .ok (.ifCond .ne 7, 3) := by decide +kernel
theorem dX6_costOf_51 : decode cX6_costOf 51 = .ok (.iconst 1, 1) := by decide +kernel
theorem dX6_costOf_52 : decode cX6_costOf 52 = .ok (.goto 4, 3) := by decide +kernel
theorem dX6_costOf_55 : decode cX6_costOf 55 = .ok (.iconst 0, 1) := by decide +kernel
theorem dX6_costOf_56 : decode cX6_costOf 56 = .ok (.istore 5, 2) := by decide +kernel
theorem dX6_costOf_58 : decode cX6_costOf 58 = .ok (.iload_n 3, 1) := by decide +kernel
theorem dX6_costOf_59 : decode cX6_costOf 59 = .ok (.ifCond .eq 27, 3) := by decide +kernel
theorem dX6_costOf_62 : decode cX6_costOf 62 = .ok (.aload_n 0, 1) := by decide +kernel
theorem dX6_costOf_63 : decode cX6_costOf 63 = .ok (.getfield 19, 3) := by decide +kernel
theorem dX6_costOf_66 : decode cX6_costOf 66 = .ok (.iload 4, 2) := by decide +kernel
theorem dX6_costOf_68 : decode cX6_costOf 68 = .ok (.iaload, 1) := by decide +kernel
theorem dX6_costOf_69 : decode cX6_costOf 69 = .ok (.iload 5, 2) := by decide +kernel
theorem dX6_costOf_71 : decode cX6_costOf 71 = .ok (.ifCond .eq 7, 3) := by decide +kernel
theorem dX6_costOf_74 : decode cX6_costOf 74 = .ok (.iconst 2, 1) := by decide +kernel
theorem dX6_costOf_75 : decode cX6_costOf 75 = .ok (.goto 4, 3) := by decide +kernel
theorem dX6_costOf_78 : decode cX6_costOf 78 = .ok (.iconst 1, 1) := by decide +kernel
theorem dX6_costOf_79 : decode cX6_costOf 79 = .ok (.if_icmp .eq 7, 3) := by decide +kernel
theorem dX6_costOf_82 : decode cX6_costOf 82 = .ok (.iconst 1, 1) := by decide +kernel
theorem dX6_costOf_83 : decode cX6_costOf 83 = .ok (.goto 4, 3) := by decide +kernel
theorem dX6_costOf_86 : decode cX6_costOf 86 = .ok (.iconst 0, 1) := by decide +kernel
theorem dX6_costOf_87 : decode cX6_costOf 87 = .ok (.istore_n 3, 1) := by decide +kernel
theorem dX6_costOf_88 : decode cX6_costOf 88 = .ok (.iinc 4 1, 3) := by decide +kernel
theorem dX6_costOf_91 : decode cX6_costOf 91 = .ok (.goto (-58), 3) := by decide +kernel
theorem dX6_costOf_94 : decode cX6_costOf 94 = .ok (.iconst 0, 1) := by decide +kernel
theorem dX6_costOf_95 : decode cX6_costOf 95 = .ok (.istore 4, 2) := by decide +kernel
theorem dX6_costOf_97 : decode cX6_costOf 97 = .ok (.iconst 0, 1) := by decide +kernel
theorem dX6_costOf_98 : decode cX6_costOf 98 = .ok (.istore 5, 2) := by decide +kernel
theorem dX6_costOf_100 : decode cX6_costOf 100 = .ok (.iload 5, 2) := by decide +kernel
theorem dX6_costOf_102 : decode cX6_costOf 102 = .ok (.bipush 60, 2) := by decide +kernel
theorem dX6_costOf_104 : decode cX6_costOf 104 = .ok (.if_icmp .ge 46, 3) := by decide +kernel
theorem dX6_costOf_107 : decode cX6_costOf 107 = .ok (.iload 4, 2) := by decide +kernel
theorem dX6_costOf_109 : decode cX6_costOf 109 = .ok (.lload_n 1, 1) := by decide +kernel
theorem dX6_costOf_110 : decode cX6_costOf 110 = .ok (.iload 5, 2) := by decide +kernel
theorem dX6_costOf_112 : decode cX6_costOf 112 = .ok (.invokestatic 64, 3) := by decide +kernel
theorem dX6_costOf_115 : decode cX6_costOf 115 = .ok (.lshr, 1) := by decide +kernel
theorem dX6_costOf_116 : decode cX6_costOf 116 = .ok (.lconst 1, 1) := by decide +kernel
theorem dX6_costOf_117 : decode cX6_costOf 117 = .ok (.land, 1) := by decide +kernel
theorem dX6_costOf_118 : decode cX6_costOf 118 = .ok (.lload_n 1, 1) := by decide +kernel
theorem dX6_costOf_119 : decode cX6_costOf 119 = .ok (.iload 5, 2) := by decide +kernel
theorem dX6_costOf_121 : decode cX6_costOf 121 = .ok (.invokestatic 86, 3) := by decide +kernel
theorem dX6_costOf_124 : decode cX6_costOf 124 = .ok (.lshr, 1) := by decide +kernel
theorem dX6_costOf_125 : decode cX6_costOf 125 = .ok (.lconst 1, 1) := by decide +kernel
theorem dX6_costOf_126 : decode cX6_costOf 126 = .ok (.land, 1) := by decide +kernel
theorem dX6_costOf_127 : decode cX6_costOf 127 = .ok (.lcmp, 1) := by decide +kernel
theorem dX6_costOf_128 : decode cX6_costOf 128 = .ok (.ifCond .eq 12, 3) := by decide +kernel
theorem dX6_costOf_131 : decode cX6_costOf 131 = .ok (.aload_n 0, 1) := by decide +kernel
theorem dX6_costOf_132 : decode cX6_costOf 132 = .ok (.iload 5, 2) := by decide +kernel
theorem dX6_costOf_134 : decode cX6_costOf 134 = .ok (.invokevirtual 82, 3) := by decide +kernel
theorem dX6_costOf_137 : decode cX6_costOf 137 = .ok (.goto 4, 3) := by decide +kernel
theorem dX6_costOf_140 : decode cX6_costOf 140 = .ok (.iconst 0, 1) := by decide +kernel
theorem dX6_costOf_141 : decode cX6_costOf 141 = .ok (.iadd, 1) := by decide +kernel
theorem dX6_costOf_142 : decode cX6_costOf 142 = .ok (.istore 4, 2) := by decide +kernel
theorem dX6_costOf_144 : decode cX6_costOf 144 = .ok (.iinc 5 1, 3) := by decide +kernel
theorem dX6_costOf_147 : decode cX6_costOf 147 = .ok (.goto (-47), 3) := by decide +kernel
theorem dX6_costOf_150 : decode cX6_costOf 150 = .ok (.iload_n 3, 1) := by decide +kernel
theorem dX6_costOf_151 : decode cX6_costOf 151 = .ok (.ifCond .eq 8, 3) := by decide +kernel
theorem dX6_costOf_154 : decode cX6_costOf 154 = .ok (.iload 4, 2) := by decide +kernel
theorem dX6_costOf_156 : decode cX6_costOf 156 = .ok (.goto 4, 3) := by decide +kernel
theorem dX6_costOf_159 : decode cX6_costOf 159 = .ok (.iconst (-1), 1) := by decide +kernel
theorem dX6_costOf_160 : decode cX6_costOf 160 = .ok (.ireturn, 1) := by decide +kernel
set_option maxRecDepth 20000 in
theorem ggX6_energyNow_X6_first : GoodIn wsX6_energyNow wsX6_first := goodIn_r _ [5] (by decide +kernel) (by decide +kernel)
set_option maxRecDepth 20000 in
theorem gX6_energyNow_X6_first : GoodIn wsX6_energyNow (va_wsS RX6 64 yX6_first wsX6_first) := goodIn_app (goodIn_of _ (by decide +kernel)) ggX6_energyNow_X6_first
set_option maxRecDepth 20000 in
theorem ggX6_energyNow_X6_second : GoodIn wsX6_energyNow wsX6_second := goodIn_r _ [8, 2, 3, 4, 5] (by decide +kernel) (by decide +kernel)
set_option maxRecDepth 20000 in
theorem gX6_energyNow_X6_second : GoodIn wsX6_energyNow (va_wsS RX6 86 yX6_second wsX6_second) := goodIn_app (goodIn_of _ (by decide +kernel)) ggX6_energyNow_X6_second
set_option maxRecDepth 20000 in
theorem ggX6_energyNow_X6_costOfEdge : GoodIn wsX6_energyNow wsX6_costOfEdge := goodIn_r _ [12, 13, 14, 15, 16, 17, 18, 19, 20, 21, 22, 23, 24, 25, 26, 27, 28, 29, 30, 31, 32, 33] (by decide +kernel) (by decide +kernel)
set_option maxRecDepth 20000 in
theorem gX6_energyNow_X6_costOfEdge : GoodIn wsX6_energyNow (wsV RX6 82 RX6 yX6_costOfEdge wsX6_costOfEdge) := goodIn_app (goodIn_of _ (by decide +kernel)) ggX6_energyNow_X6_costOfEdge
theorem dX6_energyNow_0 : decode cX6_energyNow 0 = .ok (.iconst 0, 1) := by decide +kernel
theorem dX6_energyNow_1 : decode cX6_energyNow 1 = .ok (.istore_n 1, 1) := by decide +kernel
theorem dX6_energyNow_2 : decode cX6_energyNow 2 = .ok (.iconst 0, 1) := by decide +kernel
theorem dX6_energyNow_3 : decode cX6_energyNow 3 = .ok (.istore_n 2, 1) := by decide +kernel
theorem dX6_energyNow_4 : decode cX6_energyNow 4 = .ok (.iload_n 2, 1) := by decide +kernel
theorem dX6_energyNow_5 : decode cX6_energyNow 5 = .ok (.bipush 60, 2) := by decide +kernel
theorem dX6_energyNow_7 : decode cX6_energyNow 7 = .ok (.if_icmp .ge 42, 3) := by decide +kernel
theorem dX6_energyNow_10 : decode cX6_energyNow 10 = .ok (.iload_n 1, 1) := by decide +kernel
theorem dX6_energyNow_11 : decode cX6_energyNow 11 = .ok (.aload_n 0, 1) := by decide +kernel
theorem dX6_energyNow_12 : decode cX6_energyNow 12 = .ok (.getfield 22, 3) := by decide +kernel
theorem dX6_energyNow_15 : decode cX6_energyNow 15 = .ok (.iload_n 2, 1) := by decide +kernel
theorem dX6_energyNow_16 : decode cX6_energyNow 16 = .ok (.invokestatic 64, 3) := by decide +kernel
theorem dX6_energyNow_19 : decode cX6_energyNow 19 = .ok (.iaload, 1) := by decide +kernel
theorem dX6_energyNow_20 : decode cX6_energyNow 20 = .ok (.aload_n 0, 1) := by decide +kernel
theorem dX6_energyNow_21 : decode cX6_energyNow 21 = .ok (.getfield 22, 3) := by decide +kernel
theorem dX6_energyNow_24 : decode cX6_energyNow 24 = .ok (.iload_n 2, 1) := by decide +kernel
theorem dX6_energyNow_25 : decode cX6_energyNow 25 = .ok (.invokestatic 86, 3) := by decide +kernel
theorem dX6_energyNow_28 : decode cX6_energyNow 28 = .ok (.iaload, 1) := by decide +kernel
theorem dX6_energyNow_29 : decode cX6_energyNow 29 = .ok (.if_icmp .eq 11, 3) := by decide +kernel
theorem dX6_energyNow_32 : decode cX6_energyNow 32 = .ok (.aload_n 0, 1) := by decide +kernel
theorem dX6_energyNow_33 : decode cX6_energyNow 33 = .ok (.iload_n 2, 1) := by decide +kernel
theorem dX6_energyNow_34 : decode cX6_energyNow 34 = .ok (.invokevirtual 82, 3) := by decide +kernel
theorem dX6_energyNow_37 : decode cX6_energyNow 37 = .ok (.goto 4, 3) := by decide +kernel
theorem dX6_energyNow_40 : decode cX6_energyNow 40 = .ok (.iconst 0, 1) := by decide +kernel
theorem dX6_energyNow_41 : decode cX6_energyNow 41 = .ok (.iadd, 1) := by decide +kernel
theorem dX6_energyNow_42 : decode cX6_energyNow 42 = .ok (.istore_n 1, 1) := by decide +kernel
theorem dX6_energyNow_43 : decode cX6_energyNow 43 = .ok (.iinc 2 1, 3) := by decide +kernel
theorem dX6_energyNow_46 : decode cX6_energyNow 46 = .ok (.goto (-42), 3) := by decide +kernel
theorem dX6_energyNow_49 : decode cX6_energyNow 49 = .ok (.iload_n 1, 1) := by decide +kernel
theorem dX6_energyNow_50 : decode cX6_energyNow 50 = .ok (.ireturn, 1) := by decide +kernel
set_option maxRecDepth 20000 in
theorem ggX6_pull_X6_isNode : GoodIn wsX6_pull wsX6_isNode := goodIn_r _ [6, 7, 8, 5, 9] (by decide +kernel) (by decide +kernel)
set_option maxRecDepth 20000 in
theorem gX6_pull_X6_isNode : GoodIn wsX6_pull (va_wsS RX6 93 yX6_isNode wsX6_isNode) := goodIn_app (goodIn_of _ (by decide +kernel)) ggX6_pull_X6_isNode
set_option maxRecDepth 20000 in
theorem ggX6_pull_X6_isBubble : GoodIn wsX6_pull wsX6_isBubble := goodIn_r _ [12, 7, 8, 5, 9] (by decide +kernel) (by decide +kernel)
set_option maxRecDepth 20000 in
theorem gX6_pull_X6_isBubble : GoodIn wsX6_pull (va_wsS RX6 146 yX6_isBubble wsX6_isBubble) := goodIn_app (goodIn_of _ (by decide +kernel)) ggX6_pull_X6_isBubble
set_option maxRecDepth 20000 in
theorem ggX6_pull_X6_refused : GoodIn wsX6_pull wsX6_refused := goodIn_r _ [16, 17, 34, 35, 36, 37, 38, 39, 40, 41, 42, 43, 44, 45, 46, 47, 48, 49, 50, 51, 52] (by decide +kernel) (by decide +kernel)
set_option maxRecDepth 20000 in
theorem gX6_pull_X6_refused : GoodIn wsX6_pull (wsV RX6 68 RX6 yX6_refused wsX6_refused) := goodIn_app (goodIn_of _ (by decide +kernel)) ggX6_pull_X6_refused
set_option maxRecDepth 20000 in
theorem ggX6_pull_X6_energyNow : GoodIn wsX6_pull wsX6_energyNow := goodIn_r _ [21, 1, 22, 23, 5, 24, 25, 26, 27, 28, 29, 30, 31, 32, 33, 34, 35, 36, 37, 38, 39, 40, 41, 42, 43, 44, 45, 46, 47, 48, 49, 50, 51, 52] (by decide +kernel) (by decide +kernel)
set_option maxRecDepth 20000 in
theorem gX6_pull_X6_energyNow : GoodIn wsX6_pull (wsV RX6 72 RX6 yX6_energyNow wsX6_energyNow) := goodIn_app (goodIn_of _ (by decide +kernel)) ggX6_pull_X6_energyNow
theorem dX6_pull_0 : decode cX6_pull 0 = .ok (.aload_n 0, 1) := by decide +kernel
theorem dX6_pull_1 : decode cX6_pull 1 = .ok (.iload_n 1, 1) := by decide +kernel
theorem dX6_pull_2 : decode cX6_pull 2 = .ok (.invokestatic 93, 3) := by decide +kernel
theorem dX6_pull_5 : decode cX6_pull 5 = .ok (.ifCond .eq 14, 3) := by decide +kernel
theorem dX6_pull_8 : decode cX6_pull 8 = .ok (.iload_n 2, 1) := by decide +kernel
theorem dX6_pull_9 : decode cX6_pull 9 = .ok (.invokestatic 146, 3) := by decide +kernel
theorem dX6_pull_12 : decode cX6_pull 12 = .ok (.ifCond .eq 7, 3) := by decide +kernel
theorem dX6_pull_15 : decode cX6_pull 15 = .ok (.iconst 0, 1) := by decide +kernel
theorem dX6_pull_16 : decode cX6_pull 16 = .ok (.goto 4, 3) := by decide +kernel
theorem dX6_pull_19 : decode cX6_pull 19 = .ok (.iconst 1, 1) := by decide +kernel
theorem dX6_pull_20 : decode cX6_pull 20 = .ok (.invokevirtual 68, 3) := by decide +kernel
theorem dX6_pull_23 : decode cX6_pull 23 = .ok (.ifCond .eq 5, 3) := by decide +kernel
theorem dX6_pull_26 : decode cX6_pull 26 = .ok (.iconst 0, 1) := by decide +kernel
theorem dX6_pull_27 : decode cX6_pull 27 = .ok (.ireturn, 1) := by decide +kernel
theorem dX6_pull_28 : decode cX6_pull 28 = .ok (.aload_n 0, 1) := by decide +kernel
theorem dX6_pull_29 : decode cX6_pull 29 = .ok (.getfield 22, 3) := by decide +kernel
theorem dX6_pull_32 : decode cX6_pull 32 = .ok (.iload_n 1, 1) := by decide +kernel
theorem dX6_pull_33 : decode cX6_pull 33 = .ok (.iaload, 1) := by decide +kernel
theorem dX6_pull_34 : decode cX6_pull 34 = .ok (.istore_n 3, 1) := by decide +kernel
theorem dX6_pull_35 : decode cX6_pull 35 = .ok (.aload_n 0, 1) := by decide +kernel
theorem dX6_pull_36 : decode cX6_pull 36 = .ok (.invokevirtual 72, 3) := by decide +kernel
theorem dX6_pull_39 : decode cX6_pull 39 = .ok (.istore 4, 2) := by decide +kernel
theorem dX6_pull_41 : decode cX6_pull 41 = .ok (.aload_n 0, 1) := by decide +kernel
theorem dX6_pull_42 : decode cX6_pull 42 = .ok (.getfield 22, 3) := by decide +kernel
theorem dX6_pull_45 : decode cX6_pull 45 = .ok (.iload_n 1, 1) := by decide +kernel
theorem dX6_pull_46 : decode cX6_pull 46 = .ok (.iload_n 2, 1) := by decide +kernel
theorem dX6_pull_47 : decode cX6_pull 47 = .ok (.iastore, 1) := by decide +kernel
theorem dX6_pull_48 : decode cX6_pull 48 = .ok (.aload_n 0, 1) := by decide +kernel
theorem dX6_pull_49 : decode cX6_pull 49 = .ok (.dup, 1) := by decide +kernel
theorem dX6_pull_50 : decode cX6_pull 50 = .ok (.getfield 76, 3) := by decide +kernel
theorem dX6_pull_53 : decode cX6_pull 53 = .ok (.aload_n 0, 1) := by decide +kernel
theorem dX6_pull_54 : decode cX6_pull 54 = .ok (.invokevirtual 72, 3) := by decide +kernel
theorem dX6_pull_57 : decode cX6_pull 57 = .ok (.iload 4, 2) := by decide +kernel
theorem dX6_pull_59 : decode cX6_pull 59 = .ok (.isub, 1) := by decide +kernel
theorem dX6_pull_60 : decode cX6_pull 60 = .ok (.iadd, 1) := by decide +kernel
theorem dX6_pull_61 : decode cX6_pull 61 = .ok (.putfield 76, 3) := by decide +kernel
theorem dX6_pull_64 : decode cX6_pull 64 = .ok (.iload_n 3, 1) := by decide +kernel
theorem dX6_pull_65 : decode cX6_pull 65 = .ok (.ireturn, 1) := by decide +kernel
set_option maxRecDepth 20000 in
theorem ggX6_hold_X6_isBubble : GoodIn wsX6_hold wsX6_isBubble := goodIn_r _ [5, 6, 7, 4, 8] (by decide +kernel) (by decide +kernel)
set_option maxRecDepth 20000 in
theorem gX6_hold_X6_isBubble : GoodIn wsX6_hold (va_wsS RX6 146 yX6_isBubble wsX6_isBubble) := goodIn_app (goodIn_of _ (by decide +kernel)) ggX6_hold_X6_isBubble
set_option maxRecDepth 20000 in
theorem ggX6_hold_X6_refused : GoodIn wsX6_hold wsX6_refused := goodIn_r _ [12, 13, 14, 15, 16, 17, 18, 19, 20, 21, 22, 23, 24, 25, 26, 27, 28, 29, 30, 31, 32] (by decide +kernel) (by decide +kernel)
set_option maxRecDepth 20000 in
theorem gX6_hold_X6_refused : GoodIn wsX6_hold (wsV RX6 68 RX6 yX6_refused wsX6_refused) := goodIn_app (goodIn_of _ (by decide +kernel)) ggX6_hold_X6_refused
theorem dX6_hold_0 : decode cX6_hold 0 = .ok (.aload_n 0, 1) := by decide +kernel
theorem dX6_hold_1 : decode cX6_hold 1 = .ok (.iload_n 1, 1) := by decide +kernel
theorem dX6_hold_2 : decode cX6_hold 2 = .ok (.invokestatic 146, 3) := by decide +kernel
theorem dX6_hold_5 : decode cX6_hold 5 = .ok (.ifCond .eq 7, 3) := by decide +kernel
theorem dX6_hold_8 : decode cX6_hold 8 = .ok (.iconst 0, 1) := by decide +kernel
theorem dX6_hold_9 : decode cX6_hold 9 = .ok (.goto 4, 3) := by decide +kernel
theorem dX6_hold_12 : decode cX6_hold 12 = .ok (.iconst 1, 1) := by decide +kernel
theorem dX6_hold_13 : decode cX6_hold 13 = .ok (.invokevirtual 68, 3) := by decide +kernel
theorem dX6_hold_16 : decode cX6_hold 16 = .ok (.ifCond .eq 5, 3) := by decide +kernel
theorem dX6_hold_19 : decode cX6_hold 19 = .ok (.iconst 0, 1) := by decide +kernel
theorem dX6_hold_20 : decode cX6_hold 20 = .ok (.ireturn, 1) := by decide +kernel
theorem dX6_hold_21 : decode cX6_hold 21 = .ok (.aload_n 0, 1) := by decide +kernel
theorem dX6_hold_22 : decode cX6_hold 22 = .ok (.getfield 25, 3) := by decide +kernel
theorem dX6_hold_25 : decode cX6_hold 25 = .ok (.iload_n 1, 1) := by decide +kernel
theorem dX6_hold_26 : decode cX6_hold 26 = .ok (.baload, 1) := by decide +kernel
theorem dX6_hold_27 : decode cX6_hold 27 = .ok (.istore_n 3, 1) := by decide +kernel
theorem dX6_hold_28 : decode cX6_hold 28 = .ok (.aload_n 0, 1) := by decide +kernel
theorem dX6_hold_29 : decode cX6_hold 29 = .ok (.getfield 25, 3) := by decide +kernel
theorem dX6_hold_32 : decode cX6_hold 32 = .ok (.iload_n 1, 1) := by decide +kernel
theorem dX6_hold_33 : decode cX6_hold 33 = .ok (.iload_n 2, 1) := by decide +kernel
theorem dX6_hold_34 : decode cX6_hold 34 = .ok (.bastore, 1) := by decide +kernel
theorem dX6_hold_35 : decode cX6_hold 35 = .ok (.iload_n 3, 1) := by decide +kernel
theorem dX6_hold_36 : decode cX6_hold 36 = .ok (.ireturn, 1) := by decide +kernel
set_option maxRecDepth 20000 in
theorem ggX6_wallsOf_X6_first : GoodIn wsX6_wallsOf wsX6_first := goodIn_r _ [5] (by decide +kernel) (by decide +kernel)
set_option maxRecDepth 20000 in
theorem gX6_wallsOf_X6_first : GoodIn wsX6_wallsOf (va_wsS RX6 64 yX6_first wsX6_first) := goodIn_app (goodIn_of _ (by decide +kernel)) ggX6_wallsOf_X6_first
set_option maxRecDepth 20000 in
theorem ggX6_wallsOf_X6_second : GoodIn wsX6_wallsOf wsX6_second := goodIn_r _ [8, 2, 3, 4, 5] (by decide +kernel) (by decide +kernel)
set_option maxRecDepth 20000 in
theorem gX6_wallsOf_X6_second : GoodIn wsX6_wallsOf (va_wsS RX6 86 yX6_second wsX6_second) := goodIn_app (goodIn_of _ (by decide +kernel)) ggX6_wallsOf_X6_second
set_option maxRecDepth 20000 in
theorem ggX6_wallsOf_X6_costOfEdge : GoodIn wsX6_wallsOf wsX6_costOfEdge := goodIn_r _ [12, 13, 14, 15, 16, 17, 18, 19, 20, 21, 22, 23, 24, 25, 26, 27, 28, 29, 30, 31, 32, 33] (by decide +kernel) (by decide +kernel)
set_option maxRecDepth 20000 in
theorem gX6_wallsOf_X6_costOfEdge : GoodIn wsX6_wallsOf (wsV RX6 82 RX6 yX6_costOfEdge wsX6_costOfEdge) := goodIn_app (goodIn_of _ (by decide +kernel)) ggX6_wallsOf_X6_costOfEdge
theorem dX6_wallsOf_0 : decode cX6_wallsOf 0 = .ok (.iconst 0, 1) := by decide +kernel
theorem dX6_wallsOf_1 : decode cX6_wallsOf 1 = .ok (.istore_n 3, 1) := by decide +kernel
theorem dX6_wallsOf_2 : decode cX6_wallsOf 2 = .ok (.iconst 0, 1) := by decide +kernel
theorem dX6_wallsOf_3 : decode cX6_wallsOf 3 = .ok (.istore 4, 2) := by decide +kernel
theorem dX6_wallsOf_5 : decode cX6_wallsOf 5 = .ok (.iload 4, 2) := by decide +kernel
theorem dX6_wallsOf_7 : decode cX6_wallsOf 7 = .ok (.bipush 60, 2) := by decide +kernel
theorem dX6_wallsOf_9 : decode cX6_wallsOf 9 = .ok (.if_icmp .ge 76, 3) := by decide +kernel
theorem dX6_wallsOf_12 : decode cX6_wallsOf 12 = .ok (.iload 4, 2) := by decide +kernel
theorem dX6_wallsOf_14 : decode cX6_wallsOf 14 = .ok (.invokestatic 64, 3) := by decide +kernel
theorem dX6_wallsOf_17 : decode cX6_wallsOf 17 = .ok (.iload_n 1, 1) := by decide +kernel
theorem dX6_wallsOf_18 : decode cX6_wallsOf 18 = .ok (.if_icmp .ne 11, 3) := by decide +kernel
theorem dX6_wallsOf_21 : decode cX6_wallsOf 21 = .ok (.iload 4, 2) := by decide +kernel
theorem dX6_wallsOf_23 : decode cX6_wallsOf 23 = .ok (.invokestatic 86, 3) := by decide +kernel
theorem dX6_wallsOf_26 : decode cX6_wallsOf 26 = .ok (.goto 21, 3) := by decide +kernel
theorem dX6_wallsOf_29 : decode cX6_wallsOf 29 = .ok (.iload 4, 2) := by decide +kernel
theorem dX6_wallsOf_31 : decode cX6_wallsOf 31 = .ok (.invokestatic 86, 3) := by decide +kernel
theorem dX6_wallsOf_34 : decode cX6_wallsOf 34 = .ok (.iload_n 1, 1) := by decide +kernel
theorem dX6_wallsOf_35 : decode cX6_wallsOf 35 = .ok (.if_icmp .ne 11, 3) := by decide +kernel
theorem dX6_wallsOf_38 : decode cX6_wallsOf 38 = .ok (.iload 4, 2) := by decide +kernel
theorem dX6_wallsOf_40 : decode cX6_wallsOf 40 = .ok (.invokestatic 64, 3) := by decide +kernel
theorem dX6_wallsOf_43 : decode cX6_wallsOf 43 = .ok (.goto 4, 3) := by decide +kernel
theorem dX6_wallsOf_46 : decode cX6_wallsOf 46 = .ok (.iconst (-1), 1) := by decide +kernel
theorem dX6_wallsOf_47 : decode cX6_wallsOf 47 = .ok (.istore 5, 2) := by decide +kernel
theorem dX6_wallsOf_49 : decode cX6_wallsOf 49 = .ok (.iload_n 3, 1) := by decide +kernel
theorem dX6_wallsOf_50 : decode cX6_wallsOf 50 = .ok (.iload 5, 2) := by decide +kernel
theorem dX6_wallsOf_52 : decode cX6_wallsOf 52 = .ok (.iconst (-1), 1) := by decide +kernel
theorem dX6_wallsOf_53 : decode cX6_wallsOf 53 = .ok (.if_icmp .eq 23, 3) := by decide +kernel
theorem dX6_wallsOf_56 : decode cX6_wallsOf 56 = .ok (.aload_n 0, 1) := by decide +kernel
theorem dX6_wallsOf_57 : decode cX6_wallsOf 57 = .ok (.getfield 22, 3) := by decide +kernel
theorem dX6_wallsOf_60 : decode cX6_wallsOf 60 = .ok (.iload 5, 2) := by decide +kernel
theorem dX6_wallsOf_62 : decode cX6_wallsOf 62 = .ok (.iaload, 1) := by decide +kernel
theorem dX6_wallsOf_63 : decode cX6_wallsOf 63 = .ok (.iload_n 2, 1) := by decide +kernel
theorem dX6_wallsOf_64 : decode cX6_wallsOf 64 = .ok (.if_icmp .eq 12, 3) := by decide +kernel
theorem dX6_wallsOf_67 : decode cX6_wallsOf 67 = .ok (.aload_n 0, 1) := by decide +kernel
theorem dX6_wallsOf_68 : decode cX6_wallsOf 68 = .ok (.iload 4, 2) := by decide +kernel
theorem dX6_wallsOf_70 : decode cX6_wallsOf 70 = .ok (.invokevirtual 82, 3) := by decide +kernel
theorem dX6_wallsOf_73 : decode cX6_wallsOf 73 = .ok (.goto 4, 3) := by decide +kernel
theorem dX6_wallsOf_76 : decode cX6_wallsOf 76 = .ok (.iconst 0, 1) := by decide +kernel
theorem dX6_wallsOf_77 : decode cX6_wallsOf 77 = .ok (.iadd, 1) := by decide +kernel
theorem dX6_wallsOf_78 : decode cX6_wallsOf 78 = .ok (.istore_n 3, 1) := by decide +kernel
theorem dX6_wallsOf_79 : decode cX6_wallsOf 79 = .ok (.iinc 4 1, 3) := by decide +kernel
theorem dX6_wallsOf_82 : decode cX6_wallsOf 82 = .ok (.goto (-77), 3) := by decide +kernel
theorem dX6_wallsOf_85 : decode cX6_wallsOf 85 = .ok (.iload_n 3, 1) := by decide +kernel
theorem dX6_wallsOf_86 : decode cX6_wallsOf 86 = .ok (.ireturn, 1) := by decide +kernel
set_option maxRecDepth 20000 in
theorem ggX6_isBeside_X6_first : GoodIn wsX6_isBeside wsX6_first := goodIn_r _ [5] (by decide +kernel) (by decide +kernel)
set_option maxRecDepth 20000 in
theorem gX6_isBeside_X6_first : GoodIn wsX6_isBeside (va_wsS RX6 64 yX6_first wsX6_first) := goodIn_app (goodIn_of _ (by decide +kernel)) ggX6_isBeside_X6_first
set_option maxRecDepth 20000 in
theorem ggX6_isBeside_X6_second : GoodIn wsX6_isBeside wsX6_second := goodIn_r _ [8, 2, 3, 4, 5] (by decide +kernel) (by decide +kernel)
set_option maxRecDepth 20000 in
theorem gX6_isBeside_X6_second : GoodIn wsX6_isBeside (va_wsS RX6 86 yX6_second wsX6_second) := goodIn_app (goodIn_of _ (by decide +kernel)) ggX6_isBeside_X6_second
theorem dX6_isBeside_0 : decode cX6_isBeside 0 = .ok (.iconst 0, 1) := by decide +kernel
theorem dX6_isBeside_1 : decode cX6_isBeside 1 = .ok (.istore_n 3, 1) := by decide +kernel
theorem dX6_isBeside_2 : decode cX6_isBeside 2 = .ok (.iconst 0, 1) := by decide +kernel
theorem dX6_isBeside_3 : decode cX6_isBeside 3 = .ok (.istore 4, 2) := by decide +kernel
theorem dX6_isBeside_5 : decode cX6_isBeside 5 = .ok (.iload 4, 2) := by decide +kernel
theorem dX6_isBeside_7 : decode cX6_isBeside 7 = .ok (.bipush 60, 2) := by decide +kernel
theorem dX6_isBeside_9 : decode cX6_isBeside 9 = .ok (.if_icmp .ge 73, 3) := by decide +kernel
theorem dX6_isBeside_12 : decode cX6_isBeside 12 = .ok (.iload 4, 2) := by decide +kernel
theorem dX6_isBeside_14 : decode cX6_isBeside 14 = .ok (.invokestatic 64, 3) := by decide +kernel
theorem dX6_isBeside_17 : decode cX6_isBeside 17 = .ok (.iload_n 1, 1) := by decide +kernel
theorem dX6_isBeside_18 : decode cX6_isBeside 18 = .ok (.if_icmp .ne 11, 3) := by decide +kernel
theorem dX6_isBeside_21 : decode cX6_isBeside 21 = .ok (.iload 4, 2) := by decide +kernel
theorem dX6_isBeside_23 : decode cX6_isBeside 23 = .ok (.invokestatic 86, 3) := by decide +kernel
theorem dX6_isBeside_26 : decode cX6_isBeside 26 = .ok (.goto 21, 3) := by decide +kernel
theorem dX6_isBeside_29 : decode cX6_isBeside 29 = .ok (.iload 4, 2) := by decide +kernel
theorem dX6_isBeside_31 : decode cX6_isBeside 31 = .ok (.invokestatic 86, 3) := by decide +kernel
theorem dX6_isBeside_34 : decode cX6_isBeside 34 = .ok (.iload_n 1, 1) := by decide +kernel
theorem dX6_isBeside_35 : decode cX6_isBeside 35 = .ok (.if_icmp .ne 11, 3) := by decide +kernel
theorem dX6_isBeside_38 : decode cX6_isBeside 38 = .ok (.iload 4, 2) := by decide +kernel
theorem dX6_isBeside_40 : decode cX6_isBeside 40 = .ok (.invokestatic 64, 3) := by decide +kernel
theorem dX6_isBeside_43 : decode cX6_isBeside 43 = .ok (.goto 4, 3) := by decide +kernel
theorem dX6_isBeside_46 : decode cX6_isBeside 46 = .ok (.iconst (-1), 1) := by decide +kernel
theorem dX6_isBeside_47 : decode cX6_isBeside 47 = .ok (.istore 5, 2) := by decide +kernel
theorem dX6_isBeside_49 : decode cX6_isBeside 49 = .ok (.iload_n 3, 1) := by decide +kernel
theorem dX6_isBeside_50 : decode cX6_isBeside 50 = .ok (.ifCond .ne 20, 3) := by decide +kernel
theorem dX6_isBeside_53 : decode cX6_isBeside 53 = .ok (.iload 5, 2) := by decide +kernel
theorem dX6_isBeside_55 : decode cX6_isBeside 55 = .ok (.iconst (-1), 1) := by decide +kernel
theorem dX6_isBeside_56 : decode cX6_isBeside 56 = .ok (.if_icmp .eq 18, 3) := by decide +kernel
theorem dX6_isBeside_59 : decode cX6_isBeside 59 = .ok (.aload_n 0, 1) := by decide +kernel
theorem dX6_isBeside_60 : decode cX6_isBeside 60 = .ok (.getfield 22, 3) := by decide +kernel
theorem dX6_isBeside_63 : decode cX6_isBeside 63 = .ok (.iload 5, 2) := by decide +kernel
theorem dX6_isBeside_65 : decode cX6_isBeside 65 = .ok (.iaload, 1) := by decide +kernel
theorem dX6_isBeside_66 : decode cX6_isBeside 66 = .ok (.iload_n 2, 1) := by decide +kernel
theorem dX6_isBeside_67 : decode cX6_isBeside 67 = .ok (.if_icmp .ne 7, 3) := by decide +kernel
theorem dX6_isBeside_70 : decode cX6_isBeside 70 = .ok (.iconst 1, 1) := by decide +kernel
theorem dX6_isBeside_71 : decode cX6_isBeside 71 = .ok (.goto 4, 3) := by decide +kernel
theorem dX6_isBeside_74 : decode cX6_isBeside 74 = .ok (.iconst 0, 1) := by decide +kernel
theorem dX6_isBeside_75 : decode cX6_isBeside 75 = .ok (.istore_n 3, 1) := by decide +kernel
theorem dX6_isBeside_76 : decode cX6_isBeside 76 = .ok (.iinc 4 1, 3) := by decide +kernel
theorem dX6_isBeside_79 : decode cX6_isBeside 79 = .ok (.goto (-74), 3) := by decide +kernel
theorem dX6_isBeside_82 : decode cX6_isBeside 82 = .ok (.iload_n 3, 1) := by decide +kernel
theorem dX6_isBeside_83 : decode cX6_isBeside 83 = .ok (.ireturn, 1) := by decide +kernel
set_option maxRecDepth 20000 in
theorem ggX6_bestFor_X6_wallsOf : GoodIn wsX6_bestFor wsX6_wallsOf := goodIn_r _ [8, 1, 9, 10, 7, 11, 12, 13, 14, 15, 16, 17, 18, 19, 20, 25, 26, 27, 28, 29, 30, 31, 32, 33, 34, 35, 36, 37, 38, 39, 40, 41, 42, 43] (by decide +kernel) (by decide +kernel)
set_option maxRecDepth 20000 in
theorem gX6_bestFor_X6_wallsOf : GoodIn wsX6_bestFor (wsV RX6 149 RX6 yX6_wallsOf wsX6_wallsOf) := goodIn_app (goodIn_of _ (by decide +kernel)) ggX6_bestFor_X6_wallsOf
set_option maxRecDepth 20000 in
theorem ggX6_bestFor_X6_isBeside : GoodIn wsX6_bestFor wsX6_isBeside := goodIn_r _ [24, 1, 9, 10, 7, 11, 12, 13, 14, 25, 26, 27, 28, 29, 30, 31, 32, 33, 34, 35, 36, 37, 38, 39, 40, 41, 42, 43] (by decide +kernel) (by decide +kernel)
set_option maxRecDepth 20000 in
theorem gX6_bestFor_X6_isBeside : GoodIn wsX6_bestFor (wsV RX6 152 RX6 yX6_isBeside wsX6_isBeside) := goodIn_app (goodIn_of _ (by decide +kernel)) ggX6_bestFor_X6_isBeside
theorem dX6_bestFor_0 : decode cX6_bestFor 0 = .ok (.aload_n 0, 1) := by decide +kernel
theorem dX6_bestFor_1 : decode cX6_bestFor 1 = .ok (.getfield 22, 3) := by decide +kernel
theorem dX6_bestFor_4 : decode cX6_bestFor 4 = .ok (.iload_n 1, 1) := by decide +kernel
theorem dX6_bestFor_5 : decode cX6_bestFor 5 = .ok (.iaload, 1) := by decide +kernel
theorem dX6_bestFor_6 : decode cX6_bestFor 6 = .ok (.istore_n 2, 1) := by decide +kernel
theorem dX6_bestFor_7 : decode cX6_bestFor 7 = .ok (.iload_n 2, 1) := by decide +kernel
theorem dX6_bestFor_8 : decode cX6_bestFor 8 = .ok (.istore_n 3, 1) := by decide +kernel
theorem dX6_bestFor_9 : decode cX6_bestFor 9 = .ok (.aload_n 0, 1) := by decide +kernel
theorem dX6_bestFor_10 : decode cX6_bestFor 10 = .ok (.iload_n 1, 1) := by decide +kernel
theorem dX6_bestFor_11 : decode cX6_bestFor 11 = .ok (.iload_n 2, 1) := by decide +kernel
theorem dX6_bestFor_12 : decode cX6_bestFor 12 = .ok (.invokevirtual 149, 3) := by decide +kernel
theorem dX6_bestFor_15 : decode cX6_bestFor 15 = .ok (.istore 4, 2) := by decide +kernel
theorem dX6_bestFor_17 : decode cX6_bestFor 17 = .ok (.iconst 0, 1) := by decide +kernel
theorem dX6_bestFor_18 : decode cX6_bestFor 18 = .ok (.istore 5, 2) := by decide +kernel
theorem dX6_bestFor_20 : decode cX6_bestFor 20 = .ok (.iload 5, 2) := by decide +kernel
theorem dX6_bestFor_22 : decode cX6_bestFor 22 = .ok (.bipush 8, 2) := by decide +kernel
theorem dX6_bestFor_24 : decode cX6_bestFor 24 = .ok (.if_icmp .ge 94, 3) := by decide +kernel
theorem dX6_bestFor_27 : decode cX6_bestFor 27 = .ok (.aload_n 0, 1) := by decide +kernel
theorem dX6_bestFor_28 : decode cX6_bestFor 28 = .ok (.getfield 25, 3) := by decide +kernel
theorem dX6_bestFor_31 : decode cX6_bestFor 31 = .ok (.iload_n 2, 1) := by decide +kernel
theorem dX6_bestFor_32 : decode cX6_bestFor 32 = .ok (.baload, 1) := by decide +kernel
theorem dX6_bestFor_33 : decode cX6_bestFor 33 = .ok (.ifCond .ne 85, 3) := by decide +kernel
theorem dX6_bestFor_36 : decode cX6_bestFor 36 = .ok (.aload_n 0, 1) := by decide +kernel
theorem dX6_bestFor_37 : decode cX6_bestFor 37 = .ok (.getfield 25, 3) := by decide +kernel
theorem dX6_bestFor_40 : decode cX6_bestFor 40 = .ok (.iload 5, 2) := by decide +kernel
theorem dX6_bestFor_42 : decode cX6_bestFor 42 = .ok (.baload, 1) := by decide +kernel
theorem dX6_bestFor_43 : decode cX6_bestFor 43 = .ok (.ifCond .ne 17, 3) := by decide +kernel
theorem dX6_bestFor_46 : decode cX6_bestFor 46 = .ok (.aload_n 0, 1) := by decide +kernel
theorem dX6_bestFor_47 : decode cX6_bestFor 47 = .ok (.iload_n 1, 1) := by decide +kernel
theorem dX6_bestFor_48 : decode cX6_bestFor 48 = .ok (.iload 5, 2) := by decide +kernel
theorem dX6_bestFor_50 : decode cX6_bestFor 50 = .ok (.invokevirtual 152, 3) := by decide +kernel
theorem dX6_bestFor_53 : decode cX6_bestFor 53 = .ok (.ifCond .eq 7, 3) := by decide +kernel
theorem dX6_bestFor_56 : decode cX6_bestFor 56 = .ok (.iconst 1, 1) := by decide +kernel
theorem dX6_bestFor_57 : decode cX6_bestFor 57 = .ok (.goto 4, 3) := by decide +kernel
theorem dX6_bestFor_60 : decode cX6_bestFor 60 = .ok (.iconst 0, 1) := by decide +kernel
theorem dX6_bestFor_61 : decode cX6_bestFor 61 = .ok (.istore 6, 2) := by decide +kernel
theorem dX6_bestFor_63 : decode cX6_bestFor 63 = .ok (.iload 6, 2) := by decide +kernel
theorem dX6_bestFor_65 : decode cX6_bestFor 65 = .ok (.ifCond .eq 13, 3) := by decide +kernel
theorem dX6_bestFor_68 : decode cX6_bestFor 68 = .ok (.aload_n 0, 1) := by decide +kernel
theorem dX6_bestFor_69 : decode cX6_bestFor 69 = .ok (.iload_n 1, 1) := by decide +kernel
theorem dX6_bestFor_70 : decode cX6_bestFor 70 = .ok (.iload 5, 2) := by decide +kernel
theorem dX6_bestFor_72 : decode cX6_bestFor 72 = .ok (.invokevirtual 149, 3) := by decide +kernel
theorem dX6_bestFor_75 : decode cX6_bestFor 75 = .ok (.goto 5, 3) := by decide +kernel
theorem dX6_bestFor_78 : decode cX6_bestFor 78 = .ok (.ldc 85, 2) := by decide +kernel
theorem dX6_bestFor_80 : decode cX6_bestFor 80 = .ok (.istore 7, 2) := by decide +kernel
theorem dX6_bestFor_82 : decode cX6_bestFor 82 = .ok (.iload 7, 2) := by decide +kernel
theorem dX6_bestFor_84 : decode cX6_bestFor 84 = .ok (.iload 4, 2) := by decide +kernel
theorem dX6_bestFor_86 : decode cX6_bestFor 86 = .ok (.if_icmp .ge 8, 3) := by decide +kernel
theorem dX6_bestFor_89 : decode cX6_bestFor 89 = .ok (.iload 5, 2) := by decide +kernel
theorem dX6_bestFor_91 : decode cX6_bestFor 91 = .ok (.goto 4, 3) := by decide +kernel
theorem dX6_bestFor_94 : decode cX6_bestFor 94 = .ok (.iload_n 3, 1) := by decide +kernel
theorem dX6_bestFor_95 : decode cX6_bestFor 95 = .ok (.istore_n 3, 1) := by decide +kernel
theorem dX6_bestFor_96 : decode cX6_bestFor 96 = .ok (.iload 7, 2) := by decide +kernel
theorem dX6_bestFor_98 : decode cX6_bestFor 98 = .ok (.iload 4, 2) := by decide +kernel
theorem dX6_bestFor_100 : decode cX6_bestFor 100 = .ok (.if_icmp .ge 8, 3) := by decide +kernel
theorem dX6_bestFor_103 : decode cX6_bestFor 103 = .ok (.iload 7, 2) := by decide +kernel
theorem dX6_bestFor_105 : decode cX6_bestFor 105 = .ok (.goto 5, 3) := by decide +kernel
theorem dX6_bestFor_108 : decode cX6_bestFor 108 = .ok (.iload 4, 2) := by decide +kernel
theorem dX6_bestFor_110 : decode cX6_bestFor 110 = .ok (.istore 4, 2) := by decide +kernel
theorem dX6_bestFor_112 : decode cX6_bestFor 112 = .ok (.iinc 5 1, 3) := by decide +kernel
theorem dX6_bestFor_115 : decode cX6_bestFor 115 = .ok (.goto (-95), 3) := by decide +kernel
theorem dX6_bestFor_118 : decode cX6_bestFor 118 = .ok (.iload_n 3, 1) := by decide +kernel
theorem dX6_bestFor_119 : decode cX6_bestFor 119 = .ok (.ireturn, 1) := by decide +kernel
set_option maxRecDepth 20000 in
theorem ggX6_breath_X6_bestFor : GoodIn wsX6_breath wsX6_bestFor := goodIn_r _ [6, 1, 7, 8, 9, 10, 11, 5, 12, 13, 14, 15, 16, 17, 18, 19, 20, 21, 22, 23, 24, 25, 26, 27, 28, 29, 30, 31, 32, 33, 34, 35, 36, 37, 38, 39, 40, 41, 42, 43, 44, 45, 46, 47] (by decide +kernel) (by decide +kernel)
set_option maxRecDepth 20000 in
theorem gX6_breath_X6_bestFor : GoodIn wsX6_breath (wsV RX6 156 RX6 yX6_bestFor wsX6_bestFor) := goodIn_app (goodIn_of _ (by decide +kernel)) ggX6_breath_X6_bestFor
theorem dX6_breath_0 : decode cX6_breath 0 = .ok (.iconst 0, 1) := by decide +kernel
theorem dX6_breath_1 : decode cX6_breath 1 = .ok (.istore_n 1, 1) := by decide +kernel
theorem dX6_breath_2 : decode cX6_breath 2 = .ok (.iconst 0, 1) := by decide +kernel
theorem dX6_breath_3 : decode cX6_breath 3 = .ok (.istore_n 2, 1) := by decide +kernel
theorem dX6_breath_4 : decode cX6_breath 4 = .ok (.iload_n 2, 1) := by decide +kernel
theorem dX6_breath_5 : decode cX6_breath 5 = .ok (.bipush 36, 2) := by decide +kernel
theorem dX6_breath_7 : decode cX6_breath 7 = .ok (.if_icmp .ge 40, 3) := by decide +kernel
theorem dX6_breath_10 : decode cX6_breath 10 = .ok (.aload_n 0, 1) := by decide +kernel
theorem dX6_breath_11 : decode cX6_breath 11 = .ok (.iload_n 2, 1) := by decide +kernel
theorem dX6_breath_12 : decode cX6_breath 12 = .ok (.invokevirtual 156, 3) := by decide +kernel
theorem dX6_breath_15 : decode cX6_breath 15 = .ok (.istore_n 3, 1) := by decide +kernel
theorem dX6_breath_16 : decode cX6_breath 16 = .ok (.iload_n 1, 1) := by decide +kernel
theorem dX6_breath_17 : decode cX6_breath 17 = .ok (.iload_n 3, 1) := by decide +kernel
theorem dX6_breath_18 : decode cX6_breath 18 = .ok (.aload_n 0, 1) := by decide +kernel
theorem dX6_breath_19 : decode cX6_breath 19 = .ok (.getfield 22, 3) := by decide +kernel
theorem dX6_breath_22 : decode cX6_breath 22 = .ok (.iload_n 2, 1) := by decide +kernel
theorem dX6_breath_23 : decode cX6_breath 23 = .ok (.iaload, 1) := by decide +kernel
theorem dX6_breath_24 : decode cX6_breath 24 = .ok (.if_icmp .ne 7, 3) := by decide +kernel
theorem dX6_breath_27 : decode cX6_breath 27 = .ok (.iconst 0, 1) := by decide +kernel
theorem dX6_breath_28 : decode cX6_breath 28 = .ok (.goto 4, 3) := by decide +kernel
theorem dX6_breath_31 : decode cX6_breath 31 = .ok (.iconst 1, 1) := by decide +kernel
theorem dX6_breath_32 : decode cX6_breath 32 = .ok (.iadd, 1) := by decide +kernel
theorem dX6_breath_33 : decode cX6_breath 33 = .ok (.istore_n 1, 1) := by decide +kernel
theorem dX6_breath_34 : decode cX6_breath 34 = .ok (.aload_n 0, 1) := by decide +kernel
theorem dX6_breath_35 : decode cX6_breath 35 = .ok (.getfield 22, 3) := by decide +kernel
theorem dX6_breath_38 : decode cX6_breath 38 = .ok (.iload_n 2, 1) := by decide +kernel
theorem dX6_breath_39 : decode cX6_breath 39 = .ok (.iload_n 3, 1) := by decide +kernel
theorem dX6_breath_40 : decode cX6_breath 40 = .ok (.iastore, 1) := by decide +kernel
theorem dX6_breath_41 : decode cX6_breath 41 = .ok (.iinc 2 1, 3) := by decide +kernel
theorem dX6_breath_44 : decode cX6_breath 44 = .ok (.goto (-40), 3) := by decide +kernel
theorem dX6_breath_47 : decode cX6_breath 47 = .ok (.iload_n 1, 1) := by decide +kernel
theorem dX6_breath_48 : decode cX6_breath 48 = .ok (.ireturn, 1) := by decide +kernel
set_option maxRecDepth 20000 in
theorem ggX6_breathe_X6_in : GoodIn wsX6_breathe wsX6_in := goodIn_r _ [5] (by decide +kernel) (by decide +kernel)
set_option maxRecDepth 20000 in
theorem gX6_breathe_X6_in : GoodIn wsX6_breathe (va_wsS RX6 60 yX6_in wsX6_in) := goodIn_app (goodIn_of _ (by decide +kernel)) ggX6_breathe_X6_in
set_option maxRecDepth 20000 in
theorem ggX6_breathe_X6_refused : GoodIn wsX6_breathe wsX6_refused := goodIn_r _ [9, 10, 46, 47, 48, 49, 50, 51, 52, 53, 54, 55, 56, 57, 58, 59, 60, 61, 62, 63, 64] (by decide +kernel) (by decide +kernel)
set_option maxRecDepth 20000 in
theorem gX6_breathe_X6_refused : GoodIn wsX6_breathe (wsV RX6 68 RX6 yX6_refused wsX6_refused) := goodIn_app (goodIn_of _ (by decide +kernel)) ggX6_breathe_X6_refused
set_option maxRecDepth 20000 in
theorem ggX6_breathe_X6_energyNow : GoodIn wsX6_breathe wsX6_energyNow := goodIn_r _ [14, 15, 16, 17, 4, 18, 19, 20, 21, 22, 23, 24, 25, 26, 27, 46, 47, 48, 49, 50, 51, 52, 53, 54, 55, 56, 57, 58, 59, 60, 61, 62, 63, 64] (by decide +kernel) (by decide +kernel)
set_option maxRecDepth 20000 in
theorem gX6_breathe_X6_energyNow : GoodIn wsX6_breathe (wsV RX6 72 RX6 yX6_energyNow wsX6_energyNow) := goodIn_app (goodIn_of _ (by decide +kernel)) ggX6_breathe_X6_energyNow
set_option maxRecDepth 20000 in
theorem ggX6_breathe_X6_breath : GoodIn wsX6_breathe wsX6_breath := goodIn_r _ [31, 15, 32, 33, 34, 4, 35, 36, 37, 38, 39, 40, 41, 16, 17, 18, 19, 20, 21, 22, 23, 24, 25, 26, 27, 42, 43, 44, 45, 46, 47, 48, 49, 50, 51, 52, 53, 54, 55, 56, 57, 58, 59, 60, 61, 62, 63, 64] (by decide +kernel) (by decide +kernel)
set_option maxRecDepth 20000 in
theorem gX6_breathe_X6_breath : GoodIn wsX6_breathe (wsV RX6 159 RX6 yX6_breath wsX6_breath) := goodIn_app (goodIn_of _ (by decide +kernel)) ggX6_breathe_X6_breath
theorem dX6_breathe_0 : decode cX6_breathe 0 = .ok (.aload_n 0, 1) := by decide +kernel
theorem dX6_breathe_1 : decode cX6_breathe 1 = .ok (.iload_n 1, 1) := by decide +kernel
theorem dX6_breathe_2 : decode cX6_breathe 2 = .ok (.iconst 1, 1) := by decide +kernel
theorem dX6_breathe_3 : decode cX6_breathe 3 = .ok (.bipush 100, 2) := by decide +kernel
theorem dX6_breathe_5 : decode cX6_breathe 5 = .ok (.invokestatic 60, 3) := by decide +kernel
theorem dX6_breathe_8 : decode cX6_breathe 8 = .ok (.ifCond .eq 7, 3) := by decide +kernel
theorem dX6_breathe_11 : decode cX6_breathe 11 = .ok (.iconst 0, 1) := by decide +kernel
theorem dX6_breathe_12 : decode cX6_breathe 12 = .ok (.goto 4, 3) := by decide +kernel
theorem dX6_breathe_15 : decode cX6_breathe 15 = .ok (.iconst 1, 1) := by decide +kernel
theorem dX6_breathe_16 : decode cX6_breathe 16 = .ok (.invokevirtual 68, 3) := by decide +kernel
theorem dX6_breathe_19 : decode cX6_breathe 19 = .ok (.ifCond .eq 5, 3) := by decide +kernel
theorem dX6_breathe_22 : decode cX6_breathe 22 = .ok (.iconst 0, 1) := by decide +kernel
theorem dX6_breathe_23 : decode cX6_breathe 23 = .ok (.ireturn, 1) := by decide +kernel
theorem dX6_breathe_24 : decode cX6_breathe 24 = .ok (.aload_n 0, 1) := by decide +kernel
theorem dX6_breathe_25 : decode cX6_breathe 25 = .ok (.invokevirtual 72, 3) := by decide +kernel
theorem dX6_breathe_28 : decode cX6_breathe 28 = .ok (.istore_n 2, 1) := by decide +kernel
theorem dX6_breathe_29 : decode cX6_breathe 29 = .ok (.iconst 0, 1) := by decide +kernel
theorem dX6_breathe_30 : decode cX6_breathe 30 = .ok (.istore_n 3, 1) := by decide +kernel
theorem dX6_breathe_31 : decode cX6_breathe 31 = .ok (.iconst 0, 1) := by decide +kernel
theorem dX6_breathe_32 : decode cX6_breathe 32 = .ok (.istore 4, 2) := by decide +kernel
theorem dX6_breathe_34 : decode cX6_breathe 34 = .ok (.iload 4, 2) := by decide +kernel
theorem dX6_breathe_36 : decode cX6_breathe 36 = .ok (.iload_n 1, 1) := by decide +kernel
theorem dX6_breathe_37 : decode cX6_breathe 37 = .ok (.if_icmp .ge 16, 3) := by decide +kernel
theorem dX6_breathe_40 : decode cX6_breathe 40 = .ok (.iload_n 3, 1) := by decide +kernel
theorem dX6_breathe_41 : decode cX6_breathe 41 = .ok (.aload_n 0, 1) := by decide +kernel
theorem dX6_breathe_42 : decode cX6_breathe 42 = .ok (.invokevirtual 159, 3) := by decide +kernel
theorem dX6_breathe_45 : decode cX6_breathe 45 = .ok (.iadd, 1) := by decide +kernel
theorem dX6_breathe_46 : decode cX6_breathe 46 = .ok (.istore_n 3, 1) := by decide +kernel
theorem dX6_breathe_47 : decode cX6_breathe 47 = .ok (.iinc 4 1, 3) := by decide +kernel
theorem dX6_breathe_50 : decode cX6_breathe 50 = .ok (.goto (-16), 3) := by decide +kernel
theorem dX6_breathe_53 : decode cX6_breathe 53 = .ok (.aload_n 0, 1) := by decide +kernel
theorem dX6_breathe_54 : decode cX6_breathe 54 = .ok (.dup, 1) := by decide +kernel
theorem dX6_breathe_55 : decode cX6_breathe 55 = .ok (.getfield 162, 3) := by decide +kernel
theorem dX6_breathe_58 : decode cX6_breathe 58 = .ok (.iload_n 2, 1) := by decide +kernel
theorem dX6_breathe_59 : decode cX6_breathe 59 = .ok (.aload_n 0, 1) := by decide +kernel
theorem dX6_breathe_60 : decode cX6_breathe 60 = .ok (.invokevirtual 72, 3) := by decide +kernel
theorem dX6_breathe_63 : decode cX6_breathe 63 = .ok (.isub, 1) := by decide +kernel
theorem dX6_breathe_64 : decode cX6_breathe 64 = .ok (.iadd, 1) := by decide +kernel
theorem dX6_breathe_65 : decode cX6_breathe 65 = .ok (.putfield 162, 3) := by decide +kernel
theorem dX6_breathe_68 : decode cX6_breathe 68 = .ok (.iload_n 3, 1) := by decide +kernel
theorem dX6_breathe_69 : decode cX6_breathe 69 = .ok (.ireturn, 1) := by decide +kernel
set_option maxRecDepth 20000 in
theorem ggX6_bubbleAt_X6_isNode : GoodIn wsX6_bubbleAt wsX6_isNode := goodIn_r _ [5, 6, 7, 4, 8] (by decide +kernel) (by decide +kernel)
set_option maxRecDepth 20000 in
theorem gX6_bubbleAt_X6_isNode : GoodIn wsX6_bubbleAt (va_wsS RX6 93 yX6_isNode wsX6_isNode) := goodIn_app (goodIn_of _ (by decide +kernel)) ggX6_bubbleAt_X6_isNode
set_option maxRecDepth 20000 in
theorem ggX6_bubbleAt_X6_refused : GoodIn wsX6_bubbleAt wsX6_refused := goodIn_r _ [12, 13, 14, 15, 16, 17, 18, 19, 20, 21, 22, 23, 24, 25, 26, 27, 28, 29, 30, 31, 32] (by decide +kernel) (by decide +kernel)
set_option maxRecDepth 20000 in
theorem gX6_bubbleAt_X6_refused : GoodIn wsX6_bubbleAt (wsV RX6 68 RX6 yX6_refused wsX6_refused) := goodIn_app (goodIn_of _ (by decide +kernel)) ggX6_bubbleAt_X6_refused
theorem dX6_bubbleAt_0 : decode cX6_bubbleAt 0 = .ok (.aload_n 0, 1) := by decide +kernel
theorem dX6_bubbleAt_1 : decode cX6_bubbleAt 1 = .ok (.iload_n 1, 1) := by decide +kernel
theorem dX6_bubbleAt_2 : decode cX6_bubbleAt 2 = .ok (.invokestatic 93, 3) := by decide +kernel
theorem dX6_bubbleAt_5 : decode cX6_bubbleAt 5 = .ok (.ifCond .eq 7, 3) := by decide +kernel
theorem dX6_bubbleAt_8 : decode cX6_bubbleAt 8 = .ok (.iconst 0, 1) := by decide +kernel
theorem dX6_bubbleAt_9 : decode cX6_bubbleAt 9 = .ok (.goto 4, 3) := by decide +kernel
theorem dX6_bubbleAt_12 : decode cX6_bubbleAt 12 = .ok (.iconst 1, 1) := by decide +kernel
theorem dX6_bubbleAt_13 : decode cX6_bubbleAt 13 = .ok (.invokevirtual 68, 3) := by decide +kernel
theorem dX6_bubbleAt_16 : decode cX6_bubbleAt 16 = .ok (.ifCond .eq 7, 3) := by decide +kernel
theorem dX6_bubbleAt_19 : decode cX6_bubbleAt 19 = .ok (.iconst 0, 1) := by decide +kernel
theorem dX6_bubbleAt_20 : decode cX6_bubbleAt 20 = .ok (.goto 9, 3) := by decide +kernel
theorem dX6_bubbleAt_23 : decode cX6_bubbleAt 23 = .ok (.aload_n 0, 1) := by decide +kernel
theorem dX6_bubbleAt_24 : decode cX6_bubbleAt 24 = .ok (.getfield 22, 3) := by decide +kernel
theorem dX6_bubbleAt_27 : decode cX6_bubbleAt 27 = .ok (.iload_n 1, 1) := by decide +kernel
theorem dX6_bubbleAt_28 : decode cX6_bubbleAt 28 = .ok (.iaload, 1) := by decide +kernel
theorem dX6_bubbleAt_29 : decode cX6_bubbleAt 29 = .ok (.ireturn, 1) := by decide +kernel
theorem dX6_nodesOf_0 : decode cX6_nodesOf 0 = .ok (.iconst 0, 1) := by decide +kernel
theorem dX6_nodesOf_1 : decode cX6_nodesOf 1 = .ok (.istore_n 2, 1) := by decide +kernel
theorem dX6_nodesOf_2 : decode cX6_nodesOf 2 = .ok (.iconst 0, 1) := by decide +kernel
theorem dX6_nodesOf_3 : decode cX6_nodesOf 3 = .ok (.istore_n 3, 1) := by decide +kernel
theorem dX6_nodesOf_4 : decode cX6_nodesOf 4 = .ok (.iload_n 3, 1) := by decide +kernel
theorem dX6_nodesOf_5 : decode cX6_nodesOf 5 = .ok (.bipush 36, 2) := by decide +kernel
theorem dX6_nodesOf_7 : decode cX6_nodesOf 7 = .ok (.if_icmp .ge 27, 3) := by decide +kernel
theorem dX6_nodesOf_10 : decode cX6_nodesOf 10 = .ok (.iload_n 2, 1) := by decide +kernel
theorem dX6_nodesOf_11 : decode cX6_nodesOf 11 = .ok (.aload_n 0, 1) := by decide +kernel
theorem dX6_nodesOf_12 : decode cX6_nodesOf 12 = .ok (.getfield 22, 3) := by decide +kernel
theorem dX6_nodesOf_15 : decode cX6_nodesOf 15 = .ok (.iload_n 3, 1) := by decide +kernel
theorem dX6_nodesOf_16 : decode cX6_nodesOf 16 = .ok (.iaload, 1) := by decide +kernel
theorem dX6_nodesOf_17 : decode cX6_nodesOf 17 = .ok (.iload_n 1, 1) := by decide +kernel
theorem dX6_nodesOf_18 : decode cX6_nodesOf 18 = .ok (.if_icmp .ne 7, 3) := by decide +kernel
theorem dX6_nodesOf_21 : decode cX6_nodesOf 21 = .ok (.iconst 1, 1) := by decide +kernel
theorem dX6_nodesOf_22 : decode cX6_nodesOf 22 = .ok (.goto 4, 3) := by decide +kernel
theorem dX6_nodesOf_25 : decode cX6_nodesOf 25 = .ok (.iconst 0, 1) := by decide +kernel
theorem dX6_nodesOf_26 : decode cX6_nodesOf 26 = .ok (.iadd, 1) := by decide +kernel
theorem dX6_nodesOf_27 : decode cX6_nodesOf 27 = .ok (.istore_n 2, 1) := by decide +kernel
theorem dX6_nodesOf_28 : decode cX6_nodesOf 28 = .ok (.iinc 3 1, 3) := by decide +kernel
theorem dX6_nodesOf_31 : decode cX6_nodesOf 31 = .ok (.goto (-27), 3) := by decide +kernel
theorem dX6_nodesOf_34 : decode cX6_nodesOf 34 = .ok (.iload_n 2, 1) := by decide +kernel
theorem dX6_nodesOf_35 : decode cX6_nodesOf 35 = .ok (.ireturn, 1) := by decide +kernel
set_option maxRecDepth 20000 in
theorem ggX6_piecesOf_X6_first : GoodIn wsX6_piecesOf wsX6_first := goodIn_r _ [6] (by decide +kernel) (by decide +kernel)
set_option maxRecDepth 20000 in
theorem gX6_piecesOf_X6_first : GoodIn wsX6_piecesOf (va_wsS RX6 64 yX6_first wsX6_first) := goodIn_app (goodIn_of _ (by decide +kernel)) ggX6_piecesOf_X6_first
set_option maxRecDepth 20000 in
theorem ggX6_piecesOf_X6_second : GoodIn wsX6_piecesOf wsX6_second := goodIn_r _ [9, 3, 4, 5, 6] (by decide +kernel) (by decide +kernel)
set_option maxRecDepth 20000 in
theorem gX6_piecesOf_X6_second : GoodIn wsX6_piecesOf (va_wsS RX6 86 yX6_second wsX6_second) := goodIn_app (goodIn_of _ (by decide +kernel)) ggX6_piecesOf_X6_second
theorem dX6_piecesOf_0 : decode cX6_piecesOf 0 = .ok (.iconst 0, 1) := by decide +kernel
theorem dX6_piecesOf_1 : decode cX6_piecesOf 1 = .ok (.istore_n 2, 1) := by decide +kernel
theorem dX6_piecesOf_2 : decode cX6_piecesOf 2 = .ok (.iload_n 2, 1) := by decide +kernel
theorem dX6_piecesOf_3 : decode cX6_piecesOf 3 = .ok (.bipush 36, 2) := by decide +kernel
theorem dX6_piecesOf_5 : decode cX6_piecesOf 5 = .ok (.if_icmp .ge 16, 3) := by decide +kernel
theorem dX6_piecesOf_8 : decode cX6_piecesOf 8 = .ok (.aload_n 0, 1) := by decide +kernel
theorem dX6_piecesOf_9 : decode cX6_piecesOf 9 = .ok (.getfield 50, 3) := by decide +kernel
theorem dX6_piecesOf_12 : decode cX6_piecesOf 12 = .ok (.iload_n 2, 1) := by decide +kernel
theorem dX6_piecesOf_13 : decode cX6_piecesOf 13 = .ok (.iload_n 2, 1) := by decide +kernel
theorem dX6_piecesOf_14 : decode cX6_piecesOf 14 = .ok (.iastore, 1) := by decide +kernel
theorem dX6_piecesOf_15 : decode cX6_piecesOf 15 = .ok (.iinc 2 1, 3) := by decide +kernel
theorem dX6_piecesOf_18 : decode cX6_piecesOf 18 = .ok (.goto (-16), 3) := by decide +kernel
theorem dX6_piecesOf_21 : decode cX6_piecesOf 21 = .ok (.iconst 0, 1) := by decide +kernel
theorem dX6_piecesOf_22 : decode cX6_piecesOf 22 = .ok (.istore_n 2, 1) := by decide +kernel
theorem dX6_piecesOf_23 : decode cX6_piecesOf 23 = .ok (.iload_n 2, 1) := by decide +kernel
theorem dX6_piecesOf_24 : decode cX6_piecesOf 24 = .ok (.bipush 36, 2) := by decide +kernel
theorem dX6_piecesOf_26 : decode cX6_piecesOf 26 = .ok (.if_icmp .ge 111, 3) := by decide +kernel
theorem dX6_piecesOf_29 : decode cX6_piecesOf 29 = .ok (.iconst 0, 1) := by decide +kernel
theorem dX6_piecesOf_30 : decode cX6_piecesOf 30 = .ok (.istore_n 3, 1) := by decide +kernel
theorem dX6_piecesOf_31 : decode cX6_piecesOf 31 = .ok (.iload_n 3, 1) := by decide +kernel
theorem dX6_piecesOf_32 : decode cX6_piecesOf 32 = .ok (.bipush 60, 2) := by decide +kernel
theorem dX6_piecesOf_34 : decode cX6_piecesOf 34 = .ok (.if_icmp .ge 97, 3) := by decide +kernel
theorem dX6_piecesOf_37 : decode cX6_piecesOf 37 = .ok (.iload_n 3, 1) := by decide +kernel
theorem dX6_piecesOf_38 : decode cX6_piecesOf 38 = .ok (.invokestatic 64, 3) := by decide +kernel
theorem dX6_piecesOf_41 : decode cX6_piecesOf 41 = .ok (.istore 4, 2) := by decide +kernel
theorem dX6_piecesOf_43 : decode cX6_piecesOf 43 = .ok (.iload_n 3, 1) := by decide +kernel
theorem dX6_piecesOf_44 : decode cX6_piecesOf 44 = .ok (.invokestatic 86, 3) := by decide +kernel
theorem dX6_piecesOf_47 : decode cX6_piecesOf 47 = .ok (.istore 5, 2) := by decide +kernel
theorem dX6_piecesOf_49 : decode cX6_piecesOf 49 = .ok (.aload_n 0, 1) := by decide +kernel
theorem dX6_piecesOf_50 : decode cX6_piecesOf 50 = .ok (.getfield 22, 3) := by decide +kernel
theorem dX6_piecesOf_53 : decode cX6_piecesOf 53 = .ok (.iload 4, 2) := by decide +kernel
theorem dX6_piecesOf_55 : decode cX6_piecesOf 55 = .ok (.iaload, 1) := by decide +kernel
theorem dX6_piecesOf_56 : decode cX6_piecesOf 56 = .ok (.iload_n 1, 1) := by decide +kernel
theorem dX6_piecesOf_57 : decode cX6_piecesOf 57 = .ok (.if_icmp .ne 68, 3) := by decide +kernel
theorem dX6_piecesOf_60 : decode cX6_piecesOf 60 = .ok (.aload_n 0, 1) := by decide +kernel
theorem dX6_piecesOf_61 : decode cX6_piecesOf 61 = .ok (.getfield 22, 3) := by decide +kernel
theorem dX6_piecesOf_64 : decode cX6_piecesOf 64 = .ok (.iload 5, 2) := by decide +kernel
theorem dX6_piecesOf_66 : decode cX6_piecesOf 66 = .ok (.iaload, 1) := by decide +kernel
theorem dX6_piecesOf_67 : decode cX6_piecesOf 67 = .ok (.iload_n 1, 1) := by decide +kernel
theorem dX6_piecesOf_68 : decode cX6_piecesOf 68 = .ok (.if_icmp .ne 57, 3) := by decide +kernel
theorem dX6_piecesOf_71 : decode cX6_piecesOf 71 = .ok (.aload_n 0, 1) := by decide +kernel
theorem dX6_piecesOf_72 : decode cX6_piecesOf 72 = .ok (.getfield 50, 3) := by decide +kernel
theorem dX6_piecesOf_75 : decode cX6_piecesOf 75 = .ok (.iload 4, 2) := by decide +kernel
theorem dX6_piecesOf_77 : decode cX6_piecesOf 77 = .ok (.iaload, 1) := by decide +kernel
theorem dX6_piecesOf_78 : decode cX6_piecesOf 78 = .ok (.aload_n 0, 1) := by decide +kernel
theorem dX6_piecesOf_79 : decode cX6_piecesOf 79 = .ok (.getfield 50, 3) := by decide +kernel
theorem dX6_piecesOf_82 : decode cX6_piecesOf 82 = .ok (.iload 5, 2) := by decide +kernel
theorem dX6_piecesOf_84 : decode cX6_piecesOf 84 = .ok (.iaload, 1) := by decide +kernel
theorem dX6_piecesOf_85 : decode cX6_piecesOf 85 = .ok (.if_icmp .ge 13, 3) := by decide +kernel
theorem dX6_piecesOf_88 : decode cX6_piecesOf 88 = .ok (.aload_n 0, 1) := by decide +kernel
theorem dX6_piecesOf_89 : decode cX6_piecesOf 89 = .ok (.getfield 50, 3) := by decide +kernel
theorem dX6_piecesOf_92 : decode cX6_piecesOf 92 = .ok (.iload 4, 2) := by decide +kernel
theorem dX6_piecesOf_94 : decode cX6_piecesOf 94 = .ok (.iaload, 1) := by decide +kernel
theorem dX6_piecesOf_95 : decode cX6_piecesOf 95 = .ok (.goto 10, 3) := by decide +kernel
theorem dX6_piecesOf_98 : decode cX6_piecesOf 98 = .ok (.aload_n 0, 1) := by decide +kernel
theorem dX6_piecesOf_99 : decode cX6_piecesOf 99 = .ok (.getfield 50, 3) := by decide +kernel
theorem dX6_piecesOf_102 : decode cX6_piecesOf 102 = .ok (.iload 5, 2) := by decide +kernel
theorem dX6_piecesOf_104 : decode cX6_piecesOf 104 = .ok (.iaload, 1) := by decide +kernel
theorem dX6_piecesOf_105 : decode cX6_piecesOf 105 = .ok (.istore 6, 2) := by decide +kernel
theorem dX6_piecesOf_107 : decode cX6_piecesOf 107 = .ok (.aload_n 0, 1) := by decide +kernel
theorem dX6_piecesOf_108 : decode cX6_piecesOf 108 = .ok (.getfield 50, 3) := by decide +kernel
theorem dX6_piecesOf_111 : decode cX6_piecesOf 111 = .ok (.iload 4, 2) := by decide +kernel
theorem dX6_piecesOf_113 : decode cX6_piecesOf 113 = .ok (.iload 6, 2) := by decide +kernel
theorem dX6_piecesOf_115 : decode cX6_piecesOf 115 = .ok (.iastore, 1) := by decide +kernel
theorem dX6_piecesOf_116 : decode cX6_piecesOf 116 = .ok (.aload_n 0, 1) := by decide +kernel
theorem dX6_piecesOf_117 : decode cX6_piecesOf 117 = .ok (.getfield 50, 3) := by decide +kernel
theorem dX6_piecesOf_120 : decode cX6_piecesOf 120 = .ok (.iload 5, 2) := by decide +kernel
theorem dX6_piecesOf_122 : decode cX6_piecesOf 122 = .ok (.iload 6, 2) := by decide +kernel
theorem dX6_piecesOf_124 : decode cX6_piecesOf 124 = .ok (.iastore, 1) := by decide +kernel
theorem dX6_piecesOf_125 : decode cX6_piecesOf 125 = .ok (.iinc 3 1, 3) := by decide +kernel
theorem dX6_piecesOf_128 : decode cX6_piecesOf 128 = .ok (.goto (-97), 3) := by decide +kernel
theorem dX6_piecesOf_131 : decode cX6_piecesOf 131 = .ok (.iinc 2 1, 3) := by decide +kernel
theorem dX6_piecesOf_134 : decode cX6_piecesOf 134 = .ok (.goto (-111), 3) := by decide +kernel
theorem dX6_piecesOf_137 : decode cX6_piecesOf 137 = .ok (.iconst 0, 1) := by decide +kernel
theorem dX6_piecesOf_138 : decode cX6_piecesOf 138 = .ok (.istore_n 2, 1) := by decide +kernel
theorem dX6_piecesOf_139 : decode cX6_piecesOf 139 = .ok (.iconst 0, 1) := by decide +kernel
theorem dX6_piecesOf_140 : decode cX6_piecesOf 140 = .ok (.istore_n 3, 1) := by decide +kernel
theorem dX6_piecesOf_141 : decode cX6_piecesOf 141 = .ok (.iload_n 3, 1) := by decide +kernel
theorem dX6_piecesOf_142 : decode cX6_piecesOf 142 = .ok (.bipush 36, 2) := by decide +kernel
theorem dX6_piecesOf_144 : decode cX6_piecesOf 144 = .ok (.if_icmp .ge 37, 3) := by decide +kernel
theorem dX6_piecesOf_147 : decode cX6_piecesOf 147 = .ok (.iload_n 2, 1) := by decide +kernel
theorem dX6_piecesOf_148 : decode cX6_piecesOf 148 = .ok (.aload_n 0, 1) := by decide +kernel
theorem dX6_piecesOf_149 : decode cX6_piecesOf 149 = .ok (.getfield 22, 3) := by decide +kernel
theorem dX6_piecesOf_152 : decode cX6_piecesOf 152 = .ok (.iload_n 3, 1) := by decide +kernel
theorem dX6_piecesOf_153 : decode cX6_piecesOf 153 = .ok (.iaload, 1) := by decide +kernel
theorem dX6_piecesOf_154 : decode cX6_piecesOf 154 = .ok (.iload_n 1, 1) := by decide +kernel
theorem dX6_piecesOf_155 : decode cX6_piecesOf 155 = .ok (.if_icmp .ne 17, 3) := by decide +kernel
theorem dX6_piecesOf_158 : decode cX6_piecesOf 158 = .ok (.aload_n 0, 1) := by decide +kernel
theorem dX6_piecesOf_159 : decode cX6_piecesOf 159 = .ok (.getfield 50, 3) := by decide +kernel
theorem dX6_piecesOf_162 : decode cX6_piecesOf 162 = .ok (.iload_n 3, 1) := by decide +kernel
theorem dX6_piecesOf_163 : decode cX6_piecesOf 163 = .ok (.iaload, 1) := by decide +kernel
theorem dX6_piecesOf_164 : decode cX6_piecesOf 164 = .ok (.iload_n 3, 1) := by decide +kernel
theorem dX6_piecesOf_165 : decode cX6_piecesOf 165 = .ok (.if_icmp .ne 7, 3) := by decide +kernel
theorem dX6_piecesOf_168 : decode cX6_piecesOf 168 = .ok (.iconst 1, 1) := by decide +kernel
theorem dX6_piecesOf_169 : decode cX6_piecesOf 169 = .ok (.goto 4, 3) := by decide +kernel
theorem dX6_piecesOf_172 : decode cX6_piecesOf 172 = .ok (.iconst 0, 1) := by decide +kernel
theorem dX6_piecesOf_173 : decode cX6_piecesOf 173 = .ok (.iadd, 1) := by decide +kernel
theorem dX6_piecesOf_174 : decode cX6_piecesOf 174 = .ok (.istore_n 2, 1) := by decide +kernel
theorem dX6_piecesOf_175 : decode cX6_piecesOf 175 = .ok (.iinc 3 1, 3) := by decide +kernel
theorem dX6_piecesOf_178 : decode cX6_piecesOf 178 = .ok (.goto (-37), 3) := by decide +kernel
theorem dX6_piecesOf_181 : decode cX6_piecesOf 181 = .ok (.iload_n 2, 1) := by decide +kernel
theorem dX6_piecesOf_182 : decode cX6_piecesOf 182 = .ok (.ireturn, 1) := by decide +kernel
set_option maxRecDepth 20000 in
theorem ggX6_wallBetween_X6_first : GoodIn wsX6_wallBetween wsX6_first := goodIn_r _ [5] (by decide +kernel) (by decide +kernel)
set_option maxRecDepth 20000 in
theorem gX6_wallBetween_X6_first : GoodIn wsX6_wallBetween (va_wsS RX6 64 yX6_first wsX6_first) := goodIn_app (goodIn_of _ (by decide +kernel)) ggX6_wallBetween_X6_first
set_option maxRecDepth 20000 in
theorem ggX6_wallBetween_X6_second : GoodIn wsX6_wallBetween wsX6_second := goodIn_r _ [8, 2, 3, 4, 5] (by decide +kernel) (by decide +kernel)
set_option maxRecDepth 20000 in
theorem gX6_wallBetween_X6_second : GoodIn wsX6_wallBetween (va_wsS RX6 86 yX6_second wsX6_second) := goodIn_app (goodIn_of _ (by decide +kernel)) ggX6_wallBetween_X6_second
set_option maxRecDepth 20000 in
theorem ggX6_wallBetween_X6_costOfEdge : GoodIn wsX6_wallBetween wsX6_costOfEdge := goodIn_r _ [12, 13, 14, 15, 16, 17, 18, 19, 20, 21, 22, 23, 24, 25, 26, 27, 28, 29, 30, 31, 32, 33] (by decide +kernel) (by decide +kernel)
set_option maxRecDepth 20000 in
theorem gX6_wallBetween_X6_costOfEdge : GoodIn wsX6_wallBetween (wsV RX6 82 RX6 yX6_costOfEdge wsX6_costOfEdge) := goodIn_app (goodIn_of _ (by decide +kernel)) ggX6_wallBetween_X6_costOfEdge
theorem dX6_wallBetween_0 : decode cX6_wallBetween 0 = .ok (.iconst 0, 1) := by decide +kernel
theorem dX6_wallBetween_1 : decode cX6_wallBetween 1 = .ok (.istore_n 3, 1) := by decide +kernel
theorem dX6_wallBetween_2 : decode cX6_wallBetween 2 = .ok (.iconst 0, 1) := by decide +kernel
theorem dX6_wallBetween_3 : decode cX6_wallBetween 3 = .ok (.istore 4, 2) := by decide +kernel
theorem dX6_wallBetween_5 : decode cX6_wallBetween 5 = .ok (.iload 4, 2) := by decide +kernel
theorem dX6_wallBetween_7 : decode cX6_wallBetween 7 = .ok (.bipush 60, 2) := by decide +kernel
theorem dX6_wallBetween_9 : decode cX6_wallBetween 9 = .ok (.if_icmp .ge 75, 3) := by decide +kernel
theorem dX6_wallBetween_12 : decode cX6_wallBetween 12 = .ok (.aload_n 0, 1) := by decide +kernel
theorem dX6_wallBetween_13 : decode cX6_wallBetween 13 = .ok (.getfield 22, 3) := by decide +kernel
theorem dX6_wallBetween_16 : decode cX6_wallBetween 16 = .ok (.iload 4, 2) := by decide +kernel
theorem dX6_wallBetween_18 : decode cX6_wallBetween 18 = .ok (.invokestatic 64, 3) := by decide +kernel
theorem dX6_wallBetween_21 : decode cX6_wallBetween 21 = .ok (.iaload, 1) := by decide +kernel
theorem dX6_wallBetween_22 : decode cX6_wallBetween 22 = .ok (.istore 5, 2) := by decide +kernel
theorem dX6_wallBetween_24 : decode cX6_wallBetween 24 = .ok (.aload_n 0, 1) := by decide +kernel
theorem dX6_wallBetween_25 : decode cX6_wallBetween 25 = .ok (.getfield 22, 3) := by decide +kernel
theorem dX6_wallBetween_28 : decode cX6_wallBetween 28 = .ok (.iload 4, 2) := by decide +kernel
theorem dX6_wallBetween_30 : decode cX6_wallBetween 30 = .ok (.invokestatic 86, 3) := by decide +kernel
theorem dX6_wallBetween_33 : decode cX6_wallBetween 33 = .ok (.iaload, 1) := by decide +kernel
theorem dX6_wallBetween_34 : decode cX6_wallBetween 34 = .ok (.istore 6, 2) := by decide +kernel
theorem dX6_wallBetween_36 : decode cX6_wallBetween 36 = .ok (.iload_n 3, 1) := by decide +kernel
theorem dX6_wallBetween_37 : decode cX6_wallBetween 37 = .ok (.iload_n 1, 1) := by decide +kernel
theorem dX6_wallBetween_38 : decode cX6_wallBetween 38 = .ok (.iload_n 2, 1) := by decide +kernel
theorem dX6_wallBetween_39 : decode cX6_wallBetween 39 = .ok (.if_icmp .eq 36, 3) := by decide +kernel
theorem dX6_wallBetween_42 : decode cX6_wallBetween 42 = .ok (.iload 5, 2) := by decide +kernel
theorem dX6_wallBetween_44 : decode cX6_wallBetween 44 = .ok (.iload_n 1, 1) := by decide +kernel
theorem dX6_wallBetween_45 : decode cX6_wallBetween 45 = .ok (.if_icmp .ne 9, 3) := by decide +kernel
theorem dX6_wallBetween_48 : decode cX6_wallBetween 48 = .ok (.iload 6, 2) := by decide +kernel
theorem dX6_wallBetween_50 : decode cX6_wallBetween 50 = .ok (.iload_n 2, 1) := by decide +kernel
theorem dX6_wallBetween_51 : decode cX6_wallBetween 51 = .ok (.if_icmp .eq 15, 3) := by decide +kernel
theorem dX6_wallBetween_54 : decode cX6_wallBetween 54 = .ok (.iload 5, 2) := by decide +kernel
theorem dX6_wallBetween_56 : decode cX6_wallBetween 56 = .ok (.iload_n 2, 1) := by decide +kernel
theorem dX6_wallBetween_57 : decode cX6_wallBetween 57 = .ok (.if_icmp .ne 18, 3) := by decide +kernel
theorem dX6_wallBetween_60 : decode cX6_wallBetween 60 = .ok (.iload 6, 2) := by decide +kernel
theorem dX6_wallBetween_62 : decode cX6_wallBetween 62 = .ok (.iload_n 1, 1) := by decide +kernel
theorem dX6_wallBetween_63 : decode cX6_wallBetween 63 = .ok (.if_icmp .ne 12, 3) := by decide +kernel
theorem dX6_wallBetween_66 : decode cX6_wallBetween 66 = .ok (.aload_n 0, 1) := by decide +kernel
theorem dX6_wallBetween_67 : decode cX6_wallBetween 67 = .ok (.iload 4, 2) := by decide +kernel
theorem dX6_wallBetween_69 : decode cX6_wallBetween 69 = .ok (.invokevirtual 82, 3) := by decide +kernel
theorem dX6_wallBetween_72 : decode cX6_wallBetween 72 = .ok (.goto 4, 3) := by decide +kernel
theorem dX6_wallBetween_75 : decode cX6_wallBetween 75 = .ok (.iconst 0, 1) := by decide +kernel
theorem dX6_wallBetween_76 : decode cX6_wallBetween 76 = .ok (.iadd, 1) := by decide +kernel
theorem dX6_wallBetween_77 : decode cX6_wallBetween 77 = .ok (.istore_n 3, 1) := by decide +kernel
theorem dX6_wallBetween_78 : decode cX6_wallBetween 78 = .ok (.iinc 4 1, 3) := by decide +kernel
theorem dX6_wallBetween_81 : decode cX6_wallBetween 81 = .ok (.goto (-76), 3) := by decide +kernel
theorem dX6_wallBetween_84 : decode cX6_wallBetween 84 = .ok (.iload_n 3, 1) := by decide +kernel
theorem dX6_wallBetween_85 : decode cX6_wallBetween 85 = .ok (.ireturn, 1) := by decide +kernel
set_option maxRecDepth 20000 in
theorem ggX6_wallsOfBubble_X6_wallBetween : GoodIn wsX6_wallsOfBubble wsX6_wallBetween := goodIn_r _ [5, 6, 7, 8, 4, 9, 10, 11, 12, 13, 14, 15, 16, 17, 18, 19, 20, 21, 22, 23, 24, 25, 26, 27, 28, 29, 30, 31, 32, 33, 34, 35, 36, 37] (by decide +kernel) (by decide +kernel)
set_option maxRecDepth 20000 in
theorem gX6_wallsOfBubble_X6_wallBetween : GoodIn wsX6_wallsOfBubble (wsV RX6 165 RX6 yX6_wallBetween wsX6_wallBetween) := goodIn_app (goodIn_of _ (by decide +kernel)) ggX6_wallsOfBubble_X6_wallBetween
theorem dX6_wallsOfBubble_0 : decode cX6_wallsOfBubble 0 = .ok (.iconst 0, 1) := by decide +kernel
theorem dX6_wallsOfBubble_1 : decode cX6_wallsOfBubble 1 = .ok (.istore_n 3, 1) := by decide +kernel
theorem dX6_wallsOfBubble_2 : decode cX6_wallsOfBubble 2 = .ok (.iconst 0, 1) := by decide +kernel
theorem dX6_wallsOfBubble_3 : decode cX6_wallsOfBubble 3 = .ok (.istore 4, 2) := by decide +kernel
theorem dX6_wallsOfBubble_5 : decode cX6_wallsOfBubble 5 = .ok (.iload 4, 2) := by decide +kernel
theorem dX6_wallsOfBubble_7 : decode cX6_wallsOfBubble 7 = .ok (.bipush 8, 2) := by decide +kernel
theorem dX6_wallsOfBubble_9 : decode cX6_wallsOfBubble 9 = .ok (.if_icmp .ge 40, 3) := by decide +kernel
theorem dX6_wallsOfBubble_12 : decode cX6_wallsOfBubble 12 = .ok (.aload_n 0, 1) := by decide +kernel
theorem dX6_wallsOfBubble_13 : decode cX6_wallsOfBubble 13 = .ok (.iload_n 1, 1) := by decide +kernel
theorem dX6_wallsOfBubble_14 : decode cX6_wallsOfBubble 14 = .ok (.iload 4, 2) := by decide +kernel
theorem dX6_wallsOfBubble_16 : decode cX6_wallsOfBubble 16 = .ok (.invokevirtual 165, 3) := by decide +kernel
theorem dX6_wallsOfBubble_19 : decode cX6_wallsOfBubble 19 = .ok (.istore 5, 2) := by decide +kernel
theorem dX6_wallsOfBubble_21 : decode cX6_wallsOfBubble 21 = .ok (.iload_n 3, 1) := by decide +kernel
theorem dX6_wallsOfBubble_22 : decode cX6_wallsOfBubble 22 = .ok (.iload_n 2, 1) := by decide +kernel
theorem dX6_wallsOfBubble_23 : decode cX6_wallsOfBubble 23 = .ok (.ifCond .eq 8, 3) := by decide +kernel
theorem dX6_wallsOfBubble_26 : decode cX6_wallsOfBubble 26 = .ok (.iload 5, 2) := by decide +kernel
theorem dX6_wallsOfBubble_28 : decode cX6_wallsOfBubble 28 = .ok (.goto 13, 3) := by decide +kernel
theorem dX6_wallsOfBubble_31 : decode cX6_wallsOfBubble 31 = .ok (.iload 5, 2) := by decide +kernel
theorem dX6_wallsOfBubble_33 : decode cX6_wallsOfBubble 33 = .ok (.ifCond .le 7, 3) := by decide +kernel
theorem dX6_wallsOfBubble_36 : decode cX6_wallsOfBubble 36 = .ok (.iconst 1, 1) := by decide +kernel
theorem dX6_wallsOfBubble_37 : decode cX6_wallsOfBubble 37 = .ok (.goto 4, 3) := by decide +kernel
theorem dX6_wallsOfBubble_40 : decode cX6_wallsOfBubble 40 = .ok (.iconst 0, 1) := by decide +kernel
theorem dX6_wallsOfBubble_41 : decode cX6_wallsOfBubble 41 = .ok (.iadd, 1) := by decide +kernel
theorem dX6_wallsOfBubble_42 : decode cX6_wallsOfBubble 42 = .ok (.istore_n 3, 1) := by decide +kernel
theorem dX6_wallsOfBubble_43 : decode cX6_wallsOfBubble 43 = .ok (.iinc 4 1, 3) := by decide +kernel
theorem dX6_wallsOfBubble_46 : decode cX6_wallsOfBubble 46 = .ok (.goto (-41), 3) := by decide +kernel
theorem dX6_wallsOfBubble_49 : decode cX6_wallsOfBubble 49 = .ok (.iload_n 3, 1) := by decide +kernel
theorem dX6_wallsOfBubble_50 : decode cX6_wallsOfBubble 50 = .ok (.ireturn, 1) := by decide +kernel
set_option maxRecDepth 20000 in
theorem ggX6_bubble_X6_isBubble : GoodIn wsX6_bubble wsX6_isBubble := goodIn_r _ [5, 6, 7, 4, 8] (by decide +kernel) (by decide +kernel)
set_option maxRecDepth 20000 in
theorem gX6_bubble_X6_isBubble : GoodIn wsX6_bubble (va_wsS RX6 146 yX6_isBubble wsX6_isBubble) := goodIn_app (goodIn_of _ (by decide +kernel)) ggX6_bubble_X6_isBubble
set_option maxRecDepth 20000 in
theorem ggX6_bubble_X6_in : GoodIn wsX6_bubble wsX6_in := goodIn_r _ [8] (by decide +kernel) (by decide +kernel)
set_option maxRecDepth 20000 in
theorem gX6_bubble_X6_in : GoodIn wsX6_bubble (va_wsS RX6 60 yX6_in wsX6_in) := goodIn_app (goodIn_of _ (by decide +kernel)) ggX6_bubble_X6_in
set_option maxRecDepth 20000 in
theorem ggX6_bubble_X6_refused : GoodIn wsX6_bubble wsX6_refused := goodIn_r _ [12, 13, 44, 45, 46, 47, 48, 49, 50, 51, 52, 53, 54, 55, 56, 57, 58, 59, 60, 61, 62] (by decide +kernel) (by decide +kernel)
set_option maxRecDepth 20000 in
theorem gX6_bubble_X6_refused : GoodIn wsX6_bubble (wsV RX6 68 RX6 yX6_refused wsX6_refused) := goodIn_app (goodIn_of _ (by decide +kernel)) ggX6_bubble_X6_refused
set_option maxRecDepth 20000 in
theorem ggX6_bubble_X6_nodesOf : GoodIn wsX6_bubble wsX6_nodesOf := goodIn_r _ [17, 18, 44, 45, 46, 47, 48, 49, 50, 51, 52, 53, 54, 55, 56, 57, 58, 59, 60, 61, 62] (by decide +kernel) (by decide +kernel)
set_option maxRecDepth 20000 in
theorem gX6_bubble_X6_nodesOf : GoodIn wsX6_bubble (wsV RX6 168 RX6 yX6_nodesOf wsX6_nodesOf) := goodIn_app (goodIn_of _ (by decide +kernel)) ggX6_bubble_X6_nodesOf
set_option maxRecDepth 20000 in
theorem ggX6_bubble_X6_piecesOf : GoodIn wsX6_bubble wsX6_piecesOf := goodIn_r _ [22, 23, 18, 24, 25, 4, 26, 27, 28, 29, 44, 45, 46, 47, 48, 49, 50, 51, 52, 53, 54, 55, 56, 57, 58, 59, 60, 61, 62] (by decide +kernel) (by decide +kernel)
set_option maxRecDepth 20000 in
theorem gX6_bubble_X6_piecesOf : GoodIn wsX6_bubble (wsV RX6 171 RX6 yX6_piecesOf wsX6_piecesOf) := goodIn_app (goodIn_of _ (by decide +kernel)) ggX6_bubble_X6_piecesOf
set_option maxRecDepth 20000 in
theorem ggX6_bubble_X6_wallsOfBubble : GoodIn wsX6_bubble wsX6_wallsOfBubble := goodIn_r _ [33, 34, 35, 36, 4, 37, 18, 24, 25, 26, 27, 28, 29, 38, 39, 40, 41, 42, 43, 44, 45, 46, 47, 48, 49, 50, 51, 52, 53, 54, 55, 56, 57, 58, 59, 60, 61, 62] (by decide +kernel) (by decide +kernel)
set_option maxRecDepth 20000 in
theorem gX6_bubble_X6_wallsOfBubble : GoodIn wsX6_bubble (wsV RX6 174 RX6 yX6_wallsOfBubble wsX6_wallsOfBubble) := goodIn_app (goodIn_of _ (by decide +kernel)) ggX6_bubble_X6_wallsOfBubble
theorem dX6_bubble_0 : decode cX6_bubble 0 = .ok (.aload_n 0, 1) := by decide +kernel
theorem dX6_bubble_1 : decode cX6_bubble 1 = .ok (.iload_n 1, 1) := by decide +kernel
theorem dX6_bubble_2 : decode cX6_bubble 2 = .ok (.invokestatic 146, 3) := by decide +kernel
theorem dX6_bubble_5 : decode cX6_bubble 5 = .ok (.ifCond .ne 7, 3) := by decide +kernel
theorem dX6_bubble_8 : decode cX6_bubble 8 = .ok (.iconst 1, 1) := by decide +kernel
theorem dX6_bubble_9 : decode cX6_bubble 9 = .ok (.goto 17, 3) := by decide +kernel
theorem dX6_bubble_12 : decode cX6_bubble 12 = .ok (.iload_n 2, 1) := by decide +kernel
theorem dX6_bubble_13 : decode cX6_bubble 13 = .ok (.iconst 0, 1) := by decide +kernel
theorem dX6_bubble_14 : decode cX6_bubble 14 = .ok (.iconst 4, 1) := by decide +kernel
theorem dX6_bubble_15 : decode cX6_bubble 15 = .ok (.invokestatic 60, 3) := by decide +kernel
theorem dX6_bubble_18 : decode cX6_bubble 18 = .ok (.ifCond .eq 7, 3) := by decide +kernel
theorem dX6_bubble_21 : decode cX6_bubble 21 = .ok (.iconst 0, 1) := by decide +kernel
theorem dX6_bubble_22 : decode cX6_bubble 22 = .ok (.goto 4, 3) := by decide +kernel
theorem dX6_bubble_25 : decode cX6_bubble 25 = .ok (.iconst 2, 1) := by decide +kernel
theorem dX6_bubble_26 : decode cX6_bubble 26 = .ok (.invokevirtual 68, 3) := by decide +kernel
theorem dX6_bubble_29 : decode cX6_bubble 29 = .ok (.ifCond .eq 5, 3) := by decide +kernel
theorem dX6_bubble_32 : decode cX6_bubble 32 = .ok (.iconst 0, 1) := by decide +kernel
theorem dX6_bubble_33 : decode cX6_bubble 33 = .ok (.ireturn, 1) := by decide +kernel
theorem dX6_bubble_34 : decode cX6_bubble 34 = .ok (.iload_n 2, 1) := by decide +kernel
theorem dX6_bubble_35 : decode cX6_bubble 35 = .ok (.tableswitch 55 0 3 #[29, 35, 41, 48], 29) := by decide +kernel
theorem dX6_bubble_64 : decode cX6_bubble 64 = .ok (.aload_n 0, 1) := by decide +kernel
theorem dX6_bubble_65 : decode cX6_bubble 65 = .ok (.iload_n 1, 1) := by decide +kernel
theorem dX6_bubble_66 : decode cX6_bubble 66 = .ok (.invokevirtual 168, 3) := by decide +kernel
theorem dX6_bubble_69 : decode cX6_bubble 69 = .ok (.ireturn, 1) := by decide +kernel
theorem dX6_bubble_70 : decode cX6_bubble 70 = .ok (.aload_n 0, 1) := by decide +kernel
theorem dX6_bubble_71 : decode cX6_bubble 71 = .ok (.iload_n 1, 1) := by decide +kernel
theorem dX6_bubble_72 : decode cX6_bubble 72 = .ok (.invokevirtual 171, 3) := by decide +kernel
theorem dX6_bubble_75 : decode cX6_bubble 75 = .ok (.ireturn, 1) := by decide +kernel
theorem dX6_bubble_76 : decode cX6_bubble 76 = .ok (.aload_n 0, 1) := by decide +kernel
theorem dX6_bubble_77 : decode cX6_bubble 77 = .ok (.iload_n 1, 1) := by decide +kernel
theorem dX6_bubble_78 : decode cX6_bubble 78 = .ok (.iconst 1, 1) := by decide +kernel
theorem dX6_bubble_79 : decode cX6_bubble 79 = .ok (.invokevirtual 174, 3) := by decide +kernel
theorem dX6_bubble_82 : decode cX6_bubble 82 = .ok (.ireturn, 1) := by decide +kernel
theorem dX6_bubble_83 : decode cX6_bubble 83 = .ok (.aload_n 0, 1) := by decide +kernel
theorem dX6_bubble_84 : decode cX6_bubble 84 = .ok (.iload_n 1, 1) := by decide +kernel
theorem dX6_bubble_85 : decode cX6_bubble 85 = .ok (.iconst 0, 1) := by decide +kernel
theorem dX6_bubble_86 : decode cX6_bubble 86 = .ok (.invokevirtual 174, 3) := by decide +kernel
theorem dX6_bubble_89 : decode cX6_bubble 89 = .ok (.ireturn, 1) := by decide +kernel
theorem dX6_bubble_90 : decode cX6_bubble 90 = .ok (.aload_n 0, 1) := by decide +kernel
theorem dX6_bubble_91 : decode cX6_bubble 91 = .ok (.getfield 25, 3) := by decide +kernel
theorem dX6_bubble_94 : decode cX6_bubble 94 = .ok (.iload_n 1, 1) := by decide +kernel
theorem dX6_bubble_95 : decode cX6_bubble 95 = .ok (.baload, 1) := by decide +kernel
theorem dX6_bubble_96 : decode cX6_bubble 96 = .ok (.ifCond .eq 7, 3) := by decide +kernel
theorem dX6_bubble_99 : decode cX6_bubble 99 = .ok (.iconst 1, 1) := by decide +kernel
theorem dX6_bubble_100 : decode cX6_bubble 100 = .ok (.goto 4, 3) := by decide +kernel
theorem dX6_bubble_103 : decode cX6_bubble 103 = .ok (.iconst 0, 1) := by decide +kernel
theorem dX6_bubble_104 : decode cX6_bubble 104 = .ok (.ireturn, 1) := by decide +kernel
set_option maxRecDepth 20000 in
theorem ggX6_wall_X6_isBubble : GoodIn wsX6_wall wsX6_isBubble := goodIn_r _ [4, 5, 6, 3, 7] (by decide +kernel) (by decide +kernel)
set_option maxRecDepth 20000 in
theorem gX6_wall_X6_isBubble : GoodIn wsX6_wall (va_wsS RX6 146 yX6_isBubble wsX6_isBubble) := goodIn_app (goodIn_of _ (by decide +kernel)) ggX6_wall_X6_isBubble
set_option maxRecDepth 20000 in
theorem ggX6_wall_X6_refused : GoodIn wsX6_wall wsX6_refused := goodIn_r _ [11, 12, 30, 31, 32, 33, 34, 35, 36, 37, 38, 39, 40, 41, 42, 43, 44, 45, 46, 47, 48] (by decide +kernel) (by decide +kernel)
set_option maxRecDepth 20000 in
theorem gX6_wall_X6_refused : GoodIn wsX6_wall (wsV RX6 68 RX6 yX6_refused wsX6_refused) := goodIn_app (goodIn_of _ (by decide +kernel)) ggX6_wall_X6_refused
set_option maxRecDepth 20000 in
theorem ggX6_wall_X6_wallBetween : GoodIn wsX6_wall wsX6_wallBetween := goodIn_r _ [16, 17, 18, 19, 3, 20, 21, 22, 23, 24, 25, 26, 27, 28, 29, 30, 31, 32, 33, 34, 35, 36, 37, 38, 39, 40, 41, 42, 43, 44, 45, 46, 47, 48] (by decide +kernel) (by decide +kernel)
set_option maxRecDepth 20000 in
theorem gX6_wall_X6_wallBetween : GoodIn wsX6_wall (wsV RX6 165 RX6 yX6_wallBetween wsX6_wallBetween) := goodIn_app (goodIn_of _ (by decide +kernel)) ggX6_wall_X6_wallBetween
theorem dX6_wall_0 : decode cX6_wall 0 = .ok (.aload_n 0, 1) := by decide +kernel
theorem dX6_wall_1 : decode cX6_wall 1 = .ok (.iload_n 1, 1) := by decide +kernel
theorem dX6_wall_2 : decode cX6_wall 2 = .ok (.invokestatic 146, 3) := by decide +kernel
theorem dX6_wall_5 : decode cX6_wall 5 = .ok (.ifCond .eq 14, 3) := by decide +kernel
theorem dX6_wall_8 : decode cX6_wall 8 = .ok (.iload_n 2, 1) := by decide +kernel
theorem dX6_wall_9 : decode cX6_wall 9 = .ok (.invokestatic 146, 3) := by decide +kernel
theorem dX6_wall_12 : decode cX6_wall 12 = .ok (.ifCond .eq 7, 3) := by decide +kernel
theorem dX6_wall_15 : decode cX6_wall 15 = .ok (.iconst 0, 1) := by decide +kernel
theorem dX6_wall_16 : decode cX6_wall 16 = .ok (.goto 4, 3) := by decide +kernel
theorem dX6_wall_19 : decode cX6_wall 19 = .ok (.iconst 1, 1) := by decide +kernel
theorem dX6_wall_20 : decode cX6_wall 20 = .ok (.invokevirtual 68, 3) := by decide +kernel
theorem dX6_wall_23 : decode cX6_wall 23 = .ok (.ifCond .eq 7, 3) := by decide +kernel
theorem dX6_wall_26 : decode cX6_wall 26 = .ok (.iconst 0, 1) := by decide +kernel
theorem dX6_wall_27 : decode cX6_wall 27 = .ok (.goto 9, 3) := by decide +kernel
theorem dX6_wall_30 : decode cX6_wall 30 = .ok (.aload_n 0, 1) := by decide +kernel
theorem dX6_wall_31 : decode cX6_wall 31 = .ok (.iload_n 1, 1) := by decide +kernel
theorem dX6_wall_32 : decode cX6_wall 32 = .ok (.iload_n 2, 1) := by decide +kernel
theorem dX6_wall_33 : decode cX6_wall 33 = .ok (.invokevirtual 165, 3) := by decide +kernel
theorem dX6_wall_36 : decode cX6_wall 36 = .ok (.ireturn, 1) := by decide +kernel
theorem dX6_kindsAt_0 : decode cX6_kindsAt 0 = .ok (.iconst 1, 1) := by decide +kernel
theorem dX6_kindsAt_1 : decode cX6_kindsAt 1 = .ok (.aload_n 0, 1) := by decide +kernel
theorem dX6_kindsAt_2 : decode cX6_kindsAt 2 = .ok (.getfield 22, 3) := by decide +kernel
theorem dX6_kindsAt_5 : decode cX6_kindsAt 5 = .ok (.iload_n 1, 1) := by decide +kernel
theorem dX6_kindsAt_6 : decode cX6_kindsAt 6 = .ok (.iaload, 1) := by decide +kernel
theorem dX6_kindsAt_7 : decode cX6_kindsAt 7 = .ok (.ishl, 1) := by decide +kernel
theorem dX6_kindsAt_8 : decode cX6_kindsAt 8 = .ok (.iconst 1, 1) := by decide +kernel
theorem dX6_kindsAt_9 : decode cX6_kindsAt 9 = .ok (.aload_n 0, 1) := by decide +kernel
theorem dX6_kindsAt_10 : decode cX6_kindsAt 10 = .ok (.getfield 22, 3) := by decide +kernel
theorem dX6_kindsAt_13 : decode cX6_kindsAt 13 = .ok (.iload_n 1, 1) := by decide +kernel
theorem dX6_kindsAt_14 : decode cX6_kindsAt 14 = .ok (.iconst 1, 1) := by decide +kernel
theorem dX6_kindsAt_15 : decode cX6_kindsAt 15 = .ok (.iadd, 1) := by decide +kernel
theorem dX6_kindsAt_16 : decode cX6_kindsAt 16 = .ok (.iaload, 1) := by decide +kernel
theorem dX6_kindsAt_17 : decode cX6_kindsAt 17 = .ok (.ishl, 1) := by decide +kernel
theorem dX6_kindsAt_18 : decode cX6_kindsAt 18 = .ok (.ior, 1) := by decide +kernel
theorem dX6_kindsAt_19 : decode cX6_kindsAt 19 = .ok (.iconst 1, 1) := by decide +kernel
theorem dX6_kindsAt_20 : decode cX6_kindsAt 20 = .ok (.aload_n 0, 1) := by decide +kernel
theorem dX6_kindsAt_21 : decode cX6_kindsAt 21 = .ok (.getfield 22, 3) := by decide +kernel
theorem dX6_kindsAt_24 : decode cX6_kindsAt 24 = .ok (.iload_n 1, 1) := by decide +kernel
theorem dX6_kindsAt_25 : decode cX6_kindsAt 25 = .ok (.bipush 6, 2) := by decide +kernel
theorem dX6_kindsAt_27 : decode cX6_kindsAt 27 = .ok (.iadd, 1) := by decide +kernel
theorem dX6_kindsAt_28 : decode cX6_kindsAt 28 = .ok (.iaload, 1) := by decide +kernel
theorem dX6_kindsAt_29 : decode cX6_kindsAt 29 = .ok (.ishl, 1) := by decide +kernel
theorem dX6_kindsAt_30 : decode cX6_kindsAt 30 = .ok (.ior, 1) := by decide +kernel
theorem dX6_kindsAt_31 : decode cX6_kindsAt 31 = .ok (.iconst 1, 1) := by decide +kernel
theorem dX6_kindsAt_32 : decode cX6_kindsAt 32 = .ok (.aload_n 0, 1) := by decide +kernel
theorem dX6_kindsAt_33 : decode cX6_kindsAt 33 = .ok (.getfield 22, 3) := by decide +kernel
theorem dX6_kindsAt_36 : decode cX6_kindsAt 36 = .ok (.iload_n 1, 1) := by decide +kernel
theorem dX6_kindsAt_37 : decode cX6_kindsAt 37 = .ok (.bipush 6, 2) := by decide +kernel
theorem dX6_kindsAt_39 : decode cX6_kindsAt 39 = .ok (.iadd, 1) := by decide +kernel
theorem dX6_kindsAt_40 : decode cX6_kindsAt 40 = .ok (.iconst 1, 1) := by decide +kernel
theorem dX6_kindsAt_41 : decode cX6_kindsAt 41 = .ok (.iadd, 1) := by decide +kernel
theorem dX6_kindsAt_42 : decode cX6_kindsAt 42 = .ok (.iaload, 1) := by decide +kernel
theorem dX6_kindsAt_43 : decode cX6_kindsAt 43 = .ok (.ishl, 1) := by decide +kernel
theorem dX6_kindsAt_44 : decode cX6_kindsAt 44 = .ok (.ior, 1) := by decide +kernel
theorem dX6_kindsAt_45 : decode cX6_kindsAt 45 = .ok (.istore_n 2, 1) := by decide +kernel
theorem dX6_kindsAt_46 : decode cX6_kindsAt 46 = .ok (.iconst 0, 1) := by decide +kernel
theorem dX6_kindsAt_47 : decode cX6_kindsAt 47 = .ok (.istore_n 3, 1) := by decide +kernel
theorem dX6_kindsAt_48 : decode cX6_kindsAt 48 = .ok (.iload_n 2, 1) := by decide +kernel
theorem dX6_kindsAt_49 : decode cX6_kindsAt 49 = .ok (.istore 4, 2) := by decide +kernel
theorem dX6_kindsAt_51 : decode cX6_kindsAt 51 = .ok (.iload 4, 2) := by decide +kernel
theorem dX6_kindsAt_53 : decode cX6_kindsAt 53 = .ok (.ifCond .le 19, 3) := by decide +kernel
theorem dX6_kindsAt_56 : decode cX6_kindsAt 56 = .ok (.iload_n 3, 1) := by decide +kernel
theorem dX6_kindsAt_57 : decode cX6_kindsAt 57 = .ok (.iload 4, 2) := by decide +kernel
theorem dX6_kindsAt_59 : decode cX6_kindsAt 59 = .ok (.iconst 2, 1) := by decide +kernel
theorem dX6_kindsAt_60 : decode cX6_kindsAt 60 = .ok (.irem, 1) := by decide +kernel
theorem dX6_kindsAt_61 : decode cX6_kindsAt 61 = .ok (.iadd, 1) := by decide +kernel
theorem dX6_kindsAt_62 : decode cX6_kindsAt 62 = .ok (.istore_n 3, 1) := by decide +kernel
theorem dX6_kindsAt_63 : decode cX6_kindsAt 63 = .ok (.iload 4, 2) := by decide +kernel
theorem dX6_kindsAt_65 : decode cX6_kindsAt 65 = .ok (.iconst 2, 1) := by decide +kernel
theorem dX6_kindsAt_66 : decode cX6_kindsAt 66 = .ok (.idiv, 1) := by decide +kernel
theorem dX6_kindsAt_67 : decode cX6_kindsAt 67 = .ok (.istore 4, 2) := by decide +kernel
theorem dX6_kindsAt_69 : decode cX6_kindsAt 69 = .ok (.goto (-18), 3) := by decide +kernel
theorem dX6_kindsAt_72 : decode cX6_kindsAt 72 = .ok (.iload_n 3, 1) := by decide +kernel
theorem dX6_kindsAt_73 : decode cX6_kindsAt 73 = .ok (.ireturn, 1) := by decide +kernel
set_option maxRecDepth 20000 in
theorem ggX6_corners_X6_in : GoodIn wsX6_corners wsX6_in := goodIn_r _ [4] (by decide +kernel) (by decide +kernel)
set_option maxRecDepth 20000 in
theorem gX6_corners_X6_in : GoodIn wsX6_corners (va_wsS RX6 60 yX6_in wsX6_in) := goodIn_app (goodIn_of _ (by decide +kernel)) ggX6_corners_X6_in
set_option maxRecDepth 20000 in
theorem ggX6_corners_X6_refused : GoodIn wsX6_corners wsX6_refused := goodIn_r _ [8, 9, 15, 16, 17, 18, 19, 20, 21, 22, 23, 24, 25, 26, 27, 28, 29, 30, 31, 32, 33] (by decide +kernel) (by decide +kernel)
set_option maxRecDepth 20000 in
theorem gX6_corners_X6_refused : GoodIn wsX6_corners (wsV RX6 68 RX6 yX6_refused wsX6_refused) := goodIn_app (goodIn_of _ (by decide +kernel)) ggX6_corners_X6_refused
set_option maxRecDepth 20000 in
theorem ggX6_corners_X6_kindsAt : GoodIn wsX6_corners wsX6_kindsAt := goodIn_r _ [13, 14, 15, 16, 17, 18, 19, 20, 21, 22, 23, 24, 25, 26, 27, 28, 29, 30, 31, 32, 33] (by decide +kernel) (by decide +kernel)
set_option maxRecDepth 20000 in
theorem gX6_corners_X6_kindsAt : GoodIn wsX6_corners (wsV RX6 177 RX6 yX6_kindsAt wsX6_kindsAt) := goodIn_app (goodIn_of _ (by decide +kernel)) ggX6_corners_X6_kindsAt
theorem dX6_corners_0 : decode cX6_corners 0 = .ok (.aload_n 0, 1) := by decide +kernel
theorem dX6_corners_1 : decode cX6_corners 1 = .ok (.iload_n 1, 1) := by decide +kernel
theorem dX6_corners_2 : decode cX6_corners 2 = .ok (.iconst 1, 1) := by decide +kernel
theorem dX6_corners_3 : decode cX6_corners 3 = .ok (.iconst 4, 1) := by decide +kernel
theorem dX6_corners_4 : decode cX6_corners 4 = .ok (.invokestatic 60, 3) := by decide +kernel
theorem dX6_corners_7 : decode cX6_corners 7 = .ok (.ifCond .eq 7, 3) := by decide +kernel
theorem dX6_corners_10 : decode cX6_corners 10 = .ok (.iconst 0, 1) := by decide +kernel
theorem dX6_corners_11 : decode cX6_corners 11 = .ok (.goto 4, 3) := by decide +kernel
theorem dX6_corners_14 : decode cX6_corners 14 = .ok (.iconst 1, 1) := by decide +kernel
theorem dX6_corners_15 : decode cX6_corners 15 = .ok (.invokevirtual 68, 3) := by decide +kernel
theorem dX6_corners_18 : decode cX6_corners 18 = .ok (.ifCond .eq 5, 3) := by decide +kernel
theorem dX6_corners_21 : decode cX6_corners 21 = .ok (.iconst 0, 1) := by decide +kernel
theorem dX6_corners_22 : decode cX6_corners 22 = .ok (.ireturn, 1) := by decide +kernel
theorem dX6_corners_23 : decode cX6_corners 23 = .ok (.iconst 0, 1) := by decide +kernel
theorem dX6_corners_24 : decode cX6_corners 24 = .ok (.istore_n 2, 1) := by decide +kernel
theorem dX6_corners_25 : decode cX6_corners 25 = .ok (.iconst 0, 1) := by decide +kernel
theorem dX6_corners_26 : decode cX6_corners 26 = .ok (.istore_n 3, 1) := by decide +kernel
theorem dX6_corners_27 : decode cX6_corners 27 = .ok (.iload_n 3, 1) := by decide +kernel
theorem dX6_corners_28 : decode cX6_corners 28 = .ok (.bipush 25, 2) := by decide +kernel
theorem dX6_corners_30 : decode cX6_corners 30 = .ok (.if_icmp .ge 35, 3) := by decide +kernel
theorem dX6_corners_33 : decode cX6_corners 33 = .ok (.iload_n 2, 1) := by decide +kernel
theorem dX6_corners_34 : decode cX6_corners 34 = .ok (.aload_n 0, 1) := by decide +kernel
theorem dX6_corners_35 : decode cX6_corners 35 = .ok (.bipush 6, 2) := by decide +kernel
theorem dX6_corners_37 : decode cX6_corners 37 = .ok (.iload_n 3, 1) := by decide +kernel
theorem dX6_corners_38 : decode cX6_corners 38 = .ok (.iconst 5, 1) := by decide +kernel
theorem dX6_corners_39 : decode cX6_corners 39 = .ok (.idiv, 1) := by decide +kernel
theorem dX6_corners_40 : decode cX6_corners 40 = .ok (.imul, 1) := by decide +kernel
theorem dX6_corners_41 : decode cX6_corners 41 = .ok (.iload_n 3, 1) := by decide +kernel
theorem dX6_corners_42 : decode cX6_corners 42 = .ok (.iconst 5, 1) := by decide +kernel
theorem dX6_corners_43 : decode cX6_corners 43 = .ok (.irem, 1) := by decide +kernel
theorem dX6_corners_44 : decode cX6_corners 44 = .ok (.iadd, 1) := by decide +kernel
theorem dX6_corners_45 : decode cX6_corners 45 = .ok (.invokevirtual 177, 3) := by decide +kernel
theorem dX6_corners_48 : decode cX6_corners 48 = .ok (.iload_n 1, 1) := by decide +kernel
theorem dX6_corners_49 : decode cX6_corners 49 = .ok (.if_icmp .ne 7, 3) := by decide +kernel
theorem dX6_corners_52 : decode cX6_corners 52 = .ok (.iconst 1, 1) := by decide +kernel
theorem dX6_corners_53 : decode cX6_corners 53 = .ok (.goto 4, 3) := by decide +kernel
theorem dX6_corners_56 : decode cX6_corners 56 = .ok (.iconst 0, 1) := by decide +kernel
theorem dX6_corners_57 : decode cX6_corners 57 = .ok (.iadd, 1) := by decide +kernel
theorem dX6_corners_58 : decode cX6_corners 58 = .ok (.istore_n 2, 1) := by decide +kernel
theorem dX6_corners_59 : decode cX6_corners 59 = .ok (.iinc 3 1, 3) := by decide +kernel
theorem dX6_corners_62 : decode cX6_corners 62 = .ok (.goto (-35), 3) := by decide +kernel
theorem dX6_corners_65 : decode cX6_corners 65 = .ok (.iload_n 2, 1) := by decide +kernel
theorem dX6_corners_66 : decode cX6_corners 66 = .ok (.ireturn, 1) := by decide +kernel
set_option maxRecDepth 20000 in
theorem ggX6_resting_X6_breath : GoodIn wsX6_resting wsX6_breath := goodIn_r _ [7, 2, 8, 9, 10, 6, 11, 12, 13, 14, 15, 16, 17, 18, 19, 20, 21, 22, 23, 24, 25, 26, 27, 28, 29, 30, 31, 32, 33, 38, 39, 40, 41, 42, 43, 44, 45, 46, 47, 48, 49, 50, 51, 52, 53, 54, 55, 56] (by decide +kernel) (by decide +kernel)
set_option maxRecDepth 20000 in
theorem gX6_resting_X6_breath : GoodIn wsX6_resting (wsV RX6 159 RX6 yX6_breath wsX6_breath) := goodIn_app (goodIn_of _ (by decide +kernel)) ggX6_resting_X6_breath
set_option maxRecDepth 20000 in
theorem ggX6_resting_X6_energyNow : GoodIn wsX6_resting wsX6_energyNow := goodIn_r _ [37, 2, 18, 19, 6, 20, 21, 22, 23, 24, 25, 26, 27, 28, 29, 38, 39, 40, 41, 42, 43, 44, 45, 46, 47, 48, 49, 50, 51, 52, 53, 54, 55, 56] (by decide +kernel) (by decide +kernel)
set_option maxRecDepth 20000 in
theorem gX6_resting_X6_energyNow : GoodIn wsX6_resting (wsV RX6 72 RX6 yX6_energyNow wsX6_energyNow) := goodIn_app (goodIn_of _ (by decide +kernel)) ggX6_resting_X6_energyNow
theorem dX6_resting_0 : decode cX6_resting 0 = .ok (.iconst 0, 1) := by decide +kernel
theorem dX6_resting_1 : decode cX6_resting 1 = .ok (.istore_n 2, 1) := by decide +kernel
theorem dX6_resting_2 : decode cX6_resting 2 = .ok (.iload_n 2, 1) := by decide +kernel
theorem dX6_resting_3 : decode cX6_resting 3 = .ok (.bipush 36, 2) := by decide +kernel
theorem dX6_resting_5 : decode cX6_resting 5 = .ok (.if_icmp .ge 21, 3) := by decide +kernel
theorem dX6_resting_8 : decode cX6_resting 8 = .ok (.aload_n 0, 1) := by decide +kernel
theorem dX6_resting_9 : decode cX6_resting 9 = .ok (.getfield 47, 3) := by decide +kernel
theorem dX6_resting_12 : decode cX6_resting 12 = .ok (.iload_n 2, 1) := by decide +kernel
theorem dX6_resting_13 : decode cX6_resting 13 = .ok (.aload_n 0, 1) := by decide +kernel
theorem dX6_resting_14 : decode cX6_resting 14 = .ok (.getfield 22, 3) := by decide +kernel
theorem dX6_resting_17 : decode cX6_resting 17 = .ok (.iload_n 2, 1) := by decide +kernel
theorem dX6_resting_18 : decode cX6_resting 18 = .ok (.iaload, 1) := by decide +kernel
theorem dX6_resting_19 : decode cX6_resting 19 = .ok (.iastore, 1) := by decide +kernel
theorem dX6_resting_20 : decode cX6_resting 20 = .ok (.iinc 2 1, 3) := by decide +kernel
theorem dX6_resting_23 : decode cX6_resting 23 = .ok (.goto (-21), 3) := by decide +kernel
theorem dX6_resting_26 : decode cX6_resting 26 = .ok (.iconst 0, 1) := by decide +kernel
theorem dX6_resting_27 : decode cX6_resting 27 = .ok (.istore_n 2, 1) := by decide +kernel
theorem dX6_resting_28 : decode cX6_resting 28 = .ok (.aload_n 0, 1) := by decide +kernel
theorem dX6_resting_29 : decode cX6_resting 29 = .ok (.invokevirtual 159, 3) := by decide +kernel
theorem dX6_resting_32 : decode cX6_resting 32 = .ok (.ifCond .le 9, 3) := by decide +kernel
theorem dX6_resting_35 : decode cX6_resting 35 = .ok (.iinc 2 1, 3) := by decide +kernel
theorem dX6_resting_38 : decode cX6_resting 38 = .ok (.goto (-10), 3) := by decide +kernel
theorem dX6_resting_41 : decode cX6_resting 41 = .ok (.aload_n 0, 1) := by decide +kernel
theorem dX6_resting_42 : decode cX6_resting 42 = .ok (.invokevirtual 72, 3) := by decide +kernel
theorem dX6_resting_45 : decode cX6_resting 45 = .ok (.istore_n 3, 1) := by decide +kernel
theorem dX6_resting_46 : decode cX6_resting 46 = .ok (.iconst 0, 1) := by decide +kernel
theorem dX6_resting_47 : decode cX6_resting 47 = .ok (.istore 4, 2) := by decide +kernel
theorem dX6_resting_49 : decode cX6_resting 49 = .ok (.iload 4, 2) := by decide +kernel
theorem dX6_resting_51 : decode cX6_resting 51 = .ok (.bipush 36, 2) := by decide +kernel
theorem dX6_resting_53 : decode cX6_resting 53 = .ok (.if_icmp .ge 23, 3) := by decide +kernel
theorem dX6_resting_56 : decode cX6_resting 56 = .ok (.aload_n 0, 1) := by decide +kernel
theorem dX6_resting_57 : decode cX6_resting 57 = .ok (.getfield 22, 3) := by decide +kernel
theorem dX6_resting_60 : decode cX6_resting 60 = .ok (.iload 4, 2) := by decide +kernel
theorem dX6_resting_62 : decode cX6_resting 62 = .ok (.aload_n 0, 1) := by decide +kernel
theorem dX6_resting_63 : decode cX6_resting 63 = .ok (.getfield 47, 3) := by decide +kernel
theorem dX6_resting_66 : decode cX6_resting 66 = .ok (.iload 4, 2) := by decide +kernel
theorem dX6_resting_68 : decode cX6_resting 68 = .ok (.iaload, 1) := by decide +kernel
theorem dX6_resting_69 : decode cX6_resting 69 = .ok (.iastore, 1) := by decide +kernel
theorem dX6_resting_70 : decode cX6_resting 70 = .ok (.iinc 4 1, 3) := by decide +kernel
theorem dX6_resting_73 : decode cX6_resting 73 = .ok (.goto (-24), 3) := by decide +kernel
theorem dX6_resting_76 : decode cX6_resting 76 = .ok (.iload_n 1, 1) := by decide +kernel
theorem dX6_resting_77 : decode cX6_resting 77 = .ok (.ifCond .eq 7, 3) := by decide +kernel
theorem dX6_resting_80 : decode cX6_resting 80 = .ok (.iload_n 3, 1) := by decide +kernel
theorem dX6_resting_81 : decode cX6_resting 81 = .ok (.goto 4, 3) := by decide +kernel
theorem dX6_resting_84 : decode cX6_resting 84 = .ok (.iload_n 2, 1) := by decide +kernel
theorem dX6_resting_85 : decode cX6_resting 85 = .ok (.ireturn, 1) := by decide +kernel
set_option maxRecDepth 20000 in
theorem ggX6_rests_X6_resting : GoodIn wsX6_rests wsX6_resting := goodIn_r _ [6, 7, 8, 9, 10, 11, 5, 12, 13, 14, 15, 16, 17, 18, 19, 20, 21, 22, 23, 24, 25, 26, 27, 28, 29, 30, 31, 32, 33, 34, 35, 36, 37, 38, 39, 40, 41, 42, 43, 44, 45, 46, 47, 48, 49, 50, 51, 52, 53, 54, 55, 56, 57, 58, 59, 60, 61] (by decide +kernel) (by decide +kernel)
set_option maxRecDepth 20000 in
theorem gX6_rests_X6_resting : GoodIn wsX6_rests (wsV RX6 180 RX6 yX6_resting wsX6_resting) := goodIn_app (goodIn_of _ (by decide +kernel)) ggX6_rests_X6_resting
theorem dX6_rests_0 : decode cX6_rests 0 = .ok (.aload_n 0, 1) := by decide +kernel
theorem dX6_rests_1 : decode cX6_rests 1 = .ok (.iconst 0, 1) := by decide +kernel
theorem dX6_rests_2 : decode cX6_rests 2 = .ok (.putfield 57, 3) := by decide +kernel
theorem dX6_rests_5 : decode cX6_rests 5 = .ok (.aload_n 0, 1) := by decide +kernel
theorem dX6_rests_6 : decode cX6_rests 6 = .ok (.iconst 0, 1) := by decide +kernel
theorem dX6_rests_7 : decode cX6_rests 7 = .ok (.invokevirtual 180, 3) := by decide +kernel
theorem dX6_rests_10 : decode cX6_rests 10 = .ok (.ireturn, 1) := by decide +kernel
set_option maxRecDepth 20000 in
theorem ggX6_energy_X6_in : GoodIn wsX6_energy wsX6_in := goodIn_r _ [6] (by decide +kernel) (by decide +kernel)
set_option maxRecDepth 20000 in
theorem gX6_energy_X6_in : GoodIn wsX6_energy (va_wsS RX6 60 yX6_in wsX6_in) := goodIn_app (goodIn_of _ (by decide +kernel)) ggX6_energy_X6_in
set_option maxRecDepth 20000 in
theorem ggX6_energy_X6_refused : GoodIn wsX6_energy wsX6_refused := goodIn_r _ [10, 11, 52, 53, 54, 55, 56, 57, 58, 59, 60, 61, 62, 63, 64, 65, 66, 67, 68, 69, 70] (by decide +kernel) (by decide +kernel)
set_option maxRecDepth 20000 in
theorem gX6_energy_X6_refused : GoodIn wsX6_energy (wsV RX6 68 RX6 yX6_refused wsX6_refused) := goodIn_app (goodIn_of _ (by decide +kernel)) ggX6_energy_X6_refused
set_option maxRecDepth 20000 in
theorem ggX6_energy_X6_energyNow : GoodIn wsX6_energy wsX6_energyNow := goodIn_r _ [15, 16, 17, 18, 5, 19, 20, 21, 22, 23, 24, 25, 26, 27, 28, 52, 53, 54, 55, 56, 57, 58, 59, 60, 61, 62, 63, 64, 65, 66, 67, 68, 69, 70] (by decide +kernel) (by decide +kernel)
set_option maxRecDepth 20000 in
theorem gX6_energy_X6_energyNow : GoodIn wsX6_energy (wsV RX6 72 RX6 yX6_energyNow wsX6_energyNow) := goodIn_app (goodIn_of _ (by decide +kernel)) ggX6_energy_X6_energyNow
set_option maxRecDepth 20000 in
theorem ggX6_energy_X6_resting : GoodIn wsX6_energy wsX6_resting := goodIn_r _ [32, 33, 16, 34, 35, 36, 5, 37, 38, 39, 40, 41, 42, 43, 44, 45, 46, 47, 17, 18, 19, 20, 21, 22, 23, 24, 25, 26, 27, 28, 48, 49, 50, 51, 12, 13, 14, 15, 52, 53, 54, 55, 56, 57, 58, 59, 60, 61, 62, 63, 64, 65, 66, 67, 68, 69, 70] (by decide +kernel) (by decide +kernel)
set_option maxRecDepth 20000 in
theorem gX6_energy_X6_resting : GoodIn wsX6_energy (wsV RX6 180 RX6 yX6_resting wsX6_resting) := goodIn_app (goodIn_of _ (by decide +kernel)) ggX6_energy_X6_resting
theorem dX6_energy_0 : decode cX6_energy 0 = .ok (.aload_n 0, 1) := by decide +kernel
theorem dX6_energy_1 : decode cX6_energy 1 = .ok (.iload_n 1, 1) := by decide +kernel
theorem dX6_energy_2 : decode cX6_energy 2 = .ok (.iconst 0, 1) := by decide +kernel
theorem dX6_energy_3 : decode cX6_energy 3 = .ok (.iconst 4, 1) := by decide +kernel
theorem dX6_energy_4 : decode cX6_energy 4 = .ok (.invokestatic 60, 3) := by decide +kernel
theorem dX6_energy_7 : decode cX6_energy 7 = .ok (.ifCond .eq 7, 3) := by decide +kernel
theorem dX6_energy_10 : decode cX6_energy 10 = .ok (.iconst 0, 1) := by decide +kernel
theorem dX6_energy_11 : decode cX6_energy 11 = .ok (.goto 4, 3) := by decide +kernel
theorem dX6_energy_14 : decode cX6_energy 14 = .ok (.iconst 1, 1) := by decide +kernel
theorem dX6_energy_15 : decode cX6_energy 15 = .ok (.invokevirtual 68, 3) := by decide +kernel
theorem dX6_energy_18 : decode cX6_energy 18 = .ok (.ifCond .eq 5, 3) := by decide +kernel
theorem dX6_energy_21 : decode cX6_energy 21 = .ok (.iconst 0, 1) := by decide +kernel
theorem dX6_energy_22 : decode cX6_energy 22 = .ok (.ireturn, 1) := by decide +kernel
theorem dX6_energy_23 : decode cX6_energy 23 = .ok (.iload_n 1, 1) := by decide +kernel
theorem dX6_energy_24 : decode cX6_energy 24 = .ok (.tableswitch 53 0 3 #[32, 37, 43, 48], 32) := by decide +kernel
theorem dX6_energy_56 : decode cX6_energy 56 = .ok (.aload_n 0, 1) := by decide +kernel
theorem dX6_energy_57 : decode cX6_energy 57 = .ok (.invokevirtual 72, 3) := by decide +kernel
theorem dX6_energy_60 : decode cX6_energy 60 = .ok (.ireturn, 1) := by decide +kernel
theorem dX6_energy_61 : decode cX6_energy 61 = .ok (.aload_n 0, 1) := by decide +kernel
theorem dX6_energy_62 : decode cX6_energy 62 = .ok (.iconst 1, 1) := by decide +kernel
theorem dX6_energy_63 : decode cX6_energy 63 = .ok (.invokevirtual 180, 3) := by decide +kernel
theorem dX6_energy_66 : decode cX6_energy 66 = .ok (.ireturn, 1) := by decide +kernel
theorem dX6_energy_67 : decode cX6_energy 67 = .ok (.aload_n 0, 1) := by decide +kernel
theorem dX6_energy_68 : decode cX6_energy 68 = .ok (.getfield 76, 3) := by decide +kernel
theorem dX6_energy_71 : decode cX6_energy 71 = .ok (.ireturn, 1) := by decide +kernel
theorem dX6_energy_72 : decode cX6_energy 72 = .ok (.aload_n 0, 1) := by decide +kernel
theorem dX6_energy_73 : decode cX6_energy 73 = .ok (.getfield 162, 3) := by decide +kernel
theorem dX6_energy_76 : decode cX6_energy 76 = .ok (.ireturn, 1) := by decide +kernel
theorem dX6_energy_77 : decode cX6_energy 77 = .ok (.aload_n 0, 1) := by decide +kernel
theorem dX6_energy_78 : decode cX6_energy 78 = .ok (.invokevirtual 72, 3) := by decide +kernel
theorem dX6_energy_81 : decode cX6_energy 81 = .ok (.aload_n 0, 1) := by decide +kernel
theorem dX6_energy_82 : decode cX6_energy 82 = .ok (.getfield 162, 3) := by decide +kernel
theorem dX6_energy_85 : decode cX6_energy 85 = .ok (.iadd, 1) := by decide +kernel
theorem dX6_energy_86 : decode cX6_energy 86 = .ok (.aload_n 0, 1) := by decide +kernel
theorem dX6_energy_87 : decode cX6_energy 87 = .ok (.getfield 76, 3) := by decide +kernel
theorem dX6_energy_90 : decode cX6_energy 90 = .ok (.isub, 1) := by decide +kernel
theorem dX6_energy_91 : decode cX6_energy 91 = .ok (.ireturn, 1) := by decide +kernel
