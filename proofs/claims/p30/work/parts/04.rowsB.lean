theorem dX2_lower_78 : decode cX2_lower 78 = .ok (.iadd, 1) := by decide +kernel
theorem dX2_lower_79 : decode cX2_lower 79 = .ok (.iastore, 1) := by decide +kernel
theorem dX2_lower_80 : decode cX2_lower 80 = .ok (.iconst 1, 1) := by decide +kernel
theorem dX2_lower_81 : decode cX2_lower 81 = .ok (.ireturn, 1) := by decide +kernel
theorem dX2_lower_82 : decode cX2_lower 82 = .ok (.iconst 0, 1) := by decide +kernel
theorem dX2_lower_83 : decode cX2_lower 83 = .ok (.ireturn, 1) := by decide +kernel
theorem dX3_init_0 : decode cX3_init 0 = .ok (.aload_n 0, 1) := by decide +kernel
theorem dX3_init_1 : decode cX3_init 1 = .ok (.invokespecial 3, 3) := by decide +kernel
theorem dX3_init_4 : decode cX3_init 4 = .ok (.aload_n 0, 1) := by decide +kernel
theorem dX3_init_5 : decode cX3_init 5 = .ok (.bipush 6, 2) := by decide +kernel
theorem dX3_init_7 : decode cX3_init 7 = .ok (.newarray .int, 2) := by decide +kernel
theorem dX3_init_9 : decode cX3_init 9 = .ok (.putfield 9, 3) := by decide +kernel
theorem dX3_init_12 : decode cX3_init 12 = .ok (.aload_n 0, 1) := by decide +kernel
theorem dX3_init_13 : decode cX3_init 13 = .ok (.iconst 0, 1) := by decide +kernel
theorem dX3_init_14 : decode cX3_init 14 = .ok (.putfield 15, 3) := by decide +kernel
theorem dX3_init_17 : decode cX3_init 17 = .ok (.aload_n 0, 1) := by decide +kernel
theorem dX3_init_18 : decode cX3_init 18 = .ok (.sipush 2304, 3) := by decide +kernel
theorem dX3_init_21 : decode cX3_init 21 = .ok (.newarray .int, 2) := by decide +kernel
theorem dX3_init_23 : decode cX3_init 23 = .ok (.putfield 19, 3) := by decide +kernel
theorem dX3_init_26 : decode cX3_init 26 = .ok (.aload_n 0, 1) := by decide +kernel
theorem dX3_init_27 : decode cX3_init 27 = .ok (.iconst 0, 1) := by decide +kernel
theorem dX3_init_28 : decode cX3_init 28 = .ok (.putfield 22, 3) := by decide +kernel
theorem dX3_init_31 : decode cX3_init 31 = .ok (.aload_n 0, 1) := by decide +kernel
theorem dX3_init_32 : decode cX3_init 32 = .ok (.sipush 216, 3) := by decide +kernel
theorem dX3_init_35 : decode cX3_init 35 = .ok (.newarray .int, 2) := by decide +kernel
theorem dX3_init_37 : decode cX3_init 37 = .ok (.putfield 26, 3) := by decide +kernel
theorem dX3_init_40 : decode cX3_init 40 = .ok (.aload_n 0, 1) := by decide +kernel
theorem dX3_init_41 : decode cX3_init 41 = .ok (.bipush 36, 2) := by decide +kernel
theorem dX3_init_43 : decode cX3_init 43 = .ok (.newarray .int, 2) := by decide +kernel
theorem dX3_init_45 : decode cX3_init 45 = .ok (.putfield 29, 3) := by decide +kernel
theorem dX3_init_48 : decode cX3_init 48 = .ok (.aload_n 0, 1) := by decide +kernel
theorem dX3_init_49 : decode cX3_init 49 = .ok (.bipush 6, 2) := by decide +kernel
theorem dX3_init_51 : decode cX3_init 51 = .ok (.newarray .int, 2) := by decide +kernel
theorem dX3_init_53 : decode cX3_init 53 = .ok (.putfield 32, 3) := by decide +kernel
theorem dX3_init_56 : decode cX3_init 56 = .ok (.return_, 1) := by decide +kernel
theorem dX3_size_0 : decode cX3_size 0 = .ok (.aload_n 0, 1) := by decide +kernel
theorem dX3_size_1 : decode cX3_size 1 = .ok (.getfield 15, 3) := by decide +kernel
theorem dX3_size_4 : decode cX3_size 4 = .ok (.ireturn, 1) := by decide +kernel
theorem dX3_isFull_0 : decode cX3_isFull 0 = .ok (.aload_n 0, 1) := by decide +kernel
theorem dX3_isFull_1 : decode cX3_isFull 1 = .ok (.getfield 15, 3) := by decide +kernel
theorem dX3_isFull_4 : decode cX3_isFull 4 = .ok (.bipush 6, 2) := by decide +kernel
theorem dX3_isFull_6 : decode cX3_isFull 6 = .ok (.if_icmp .lt 7, 3) := by decide +kernel
theorem dX3_isFull_9 : decode cX3_isFull 9 = .ok (.iconst 1, 1) := by decide +kernel
theorem dX3_isFull_10 : decode cX3_isFull 10 = .ok (.goto 4, 3) := by decide +kernel
theorem dX3_isFull_13 : decode cX3_isFull 13 = .ok (.iconst 0, 1) := by decide +kernel
theorem dX3_isFull_14 : decode cX3_isFull 14 = .ok (.ireturn, 1) := by decide +kernel
theorem dX3_nodeOf_0 : decode cX3_nodeOf 0 = .ok (.aload_n 0, 1) := by decide +kernel
theorem dX3_nodeOf_1 : decode cX3_nodeOf 1 = .ok (.getfield 9, 3) := by decide +kernel
theorem dX3_nodeOf_4 : decode cX3_nodeOf 4 = .ok (.iload_n 1, 1) := by decide +kernel
theorem dX3_nodeOf_5 : decode cX3_nodeOf 5 = .ok (.iaload, 1) := by decide +kernel
theorem dX3_nodeOf_6 : decode cX3_nodeOf 6 = .ok (.ireturn, 1) := by decide +kernel
theorem dX3_hasTownAt_0 : decode cX3_hasTownAt 0 = .ok (.iconst 0, 1) := by decide +kernel
theorem dX3_hasTownAt_1 : decode cX3_hasTownAt 1 = .ok (.istore_n 2, 1) := by decide +kernel
theorem dX3_hasTownAt_2 : decode cX3_hasTownAt 2 = .ok (.iload_n 2, 1) := by decide +kernel
theorem dX3_hasTownAt_3 : decode cX3_hasTownAt 3 = .ok (.aload_n 0, 1) := by decide +kernel
theorem dX3_hasTownAt_4 : decode cX3_hasTownAt 4 = .ok (.getfield 15, 3) := by decide +kernel
theorem dX3_hasTownAt_7 : decode cX3_hasTownAt 7 = .ok (.if_icmp .ge 21, 3) := by decide +kernel
theorem dX3_hasTownAt_10 : decode cX3_hasTownAt 10 = .ok (.aload_n 0, 1) := by decide +kernel
theorem dX3_hasTownAt_11 : decode cX3_hasTownAt 11 = .ok (.getfield 9, 3) := by decide +kernel
theorem dX3_hasTownAt_14 : decode cX3_hasTownAt 14 = .ok (.iload_n 2, 1) := by decide +kernel
theorem dX3_hasTownAt_15 : decode cX3_hasTownAt 15 = .ok (.iaload, 1) := by decide +kernel
theorem dX3_hasTownAt_16 : decode cX3_hasTownAt 16 = .ok (.iload_n 1, 1) := by decide +kernel
theorem dX3_hasTownAt_17 : decode cX3_hasTownAt 17 = .ok (.if_icmp .ne 5, 3) := by decide +kernel
theorem dX3_hasTownAt_20 : decode cX3_hasTownAt 20 = .ok (.iconst 1, 1) := by decide +kernel
theorem dX3_hasTownAt_21 : decode cX3_hasTownAt 21 = .ok (.ireturn, 1) := by decide +kernel
theorem dX3_hasTownAt_22 : decode cX3_hasTownAt 22 = .ok (.iinc 2 1, 3) := by decide +kernel
theorem dX3_hasTownAt_25 : decode cX3_hasTownAt 25 = .ok (.goto (-23), 3) := by decide +kernel
theorem dX3_hasTownAt_28 : decode cX3_hasTownAt 28 = .ok (.iconst 0, 1) := by decide +kernel
theorem dX3_hasTownAt_29 : decode cX3_hasTownAt 29 = .ok (.ireturn, 1) := by decide +kernel
theorem dX3_add_0 : decode cX3_add 0 = .ok (.aload_n 0, 1) := by decide +kernel
theorem dX3_add_1 : decode cX3_add 1 = .ok (.getfield 9, 3) := by decide +kernel
theorem dX3_add_4 : decode cX3_add 4 = .ok (.aload_n 0, 1) := by decide +kernel
theorem dX3_add_5 : decode cX3_add 5 = .ok (.getfield 15, 3) := by decide +kernel
theorem dX3_add_8 : decode cX3_add 8 = .ok (.iload_n 1, 1) := by decide +kernel
theorem dX3_add_9 : decode cX3_add 9 = .ok (.iastore, 1) := by decide +kernel
theorem dX3_add_10 : decode cX3_add 10 = .ok (.aload_n 0, 1) := by decide +kernel
theorem dX3_add_11 : decode cX3_add 11 = .ok (.dup, 1) := by decide +kernel
theorem dX3_add_12 : decode cX3_add 12 = .ok (.getfield 15, 3) := by decide +kernel
theorem dX3_add_15 : decode cX3_add 15 = .ok (.iconst 1, 1) := by decide +kernel
theorem dX3_add_16 : decode cX3_add 16 = .ok (.iadd, 1) := by decide +kernel
theorem dX3_add_17 : decode cX3_add 17 = .ok (.putfield 15, 3) := by decide +kernel
theorem dX3_add_20 : decode cX3_add 20 = .ok (.aload_n 0, 1) := by decide +kernel
theorem dX3_add_21 : decode cX3_add 21 = .ok (.invokevirtual 35, 3) := by decide +kernel
theorem dX3_add_24 : decode cX3_add 24 = .ok (.aload_n 0, 1) := by decide +kernel
theorem dX3_add_25 : decode cX3_add 25 = .ok (.getfield 15, 3) := by decide +kernel
theorem dX3_add_28 : decode cX3_add 28 = .ok (.iconst 1, 1) := by decide +kernel
theorem dX3_add_29 : decode cX3_add 29 = .ok (.isub, 1) := by decide +kernel
theorem dX3_add_30 : decode cX3_add 30 = .ok (.ireturn, 1) := by decide +kernel
theorem dX3_remove_0 : decode cX3_remove 0 = .ok (.aload_n 0, 1) := by decide +kernel
theorem dX3_remove_1 : decode cX3_remove 1 = .ok (.getfield 9, 3) := by decide +kernel
theorem dX3_remove_4 : decode cX3_remove 4 = .ok (.iload_n 1, 1) := by decide +kernel
theorem dX3_remove_5 : decode cX3_remove 5 = .ok (.iaload, 1) := by decide +kernel
theorem dX3_remove_6 : decode cX3_remove 6 = .ok (.istore_n 2, 1) := by decide +kernel
theorem dX3_remove_7 : decode cX3_remove 7 = .ok (.iload_n 1, 1) := by decide +kernel
theorem dX3_remove_8 : decode cX3_remove 8 = .ok (.iconst 1, 1) := by decide +kernel
theorem dX3_remove_9 : decode cX3_remove 9 = .ok (.iadd, 1) := by decide +kernel
theorem dX3_remove_10 : decode cX3_remove 10 = .ok (.istore_n 3, 1) := by decide +kernel
theorem dX3_remove_11 : decode cX3_remove 11 = .ok (.iload_n 3, 1) := by decide +kernel
theorem dX3_remove_12 : decode cX3_remove 12 = .ok (.aload_n 0, 1) := by decide +kernel
theorem dX3_remove_13 : decode cX3_remove 13 = .ok (.getfield 15, 3) := by decide +kernel
theorem dX3_remove_16 : decode cX3_remove 16 = .ok (.if_icmp .ge 23, 3) := by decide +kernel
theorem dX3_remove_19 : decode cX3_remove 19 = .ok (.aload_n 0, 1) := by decide +kernel
theorem dX3_remove_20 : decode cX3_remove 20 = .ok (.getfield 9, 3) := by decide +kernel
theorem dX3_remove_23 : decode cX3_remove 23 = .ok (.iload_n 3, 1) := by decide +kernel
theorem dX3_remove_24 : decode cX3_remove 24 = .ok (.iconst 1, 1) := by decide +kernel
theorem dX3_remove_25 : decode cX3_remove 25 = .ok (.isub, 1) := by decide +kernel
theorem dX3_remove_26 : decode cX3_remove 26 = .ok (.aload_n 0, 1) := by decide +kernel
theorem dX3_remove_27 : decode cX3_remove 27 = .ok (.getfield 9, 3) := by decide +kernel
theorem dX3_remove_30 : decode cX3_remove 30 = .ok (.iload_n 3, 1) := by decide +kernel
theorem dX3_remove_31 : decode cX3_remove 31 = .ok (.iaload, 1) := by decide +kernel
theorem dX3_remove_32 : decode cX3_remove 32 = .ok (.iastore, 1) := by decide +kernel
theorem dX3_remove_33 : decode cX3_remove 33 = .ok (.iinc 3 1, 3) := by decide +kernel
theorem dX3_remove_36 : decode cX3_remove 36 = .ok (.goto (-25), 3) := by decide +kernel
theorem dX3_remove_39 : decode cX3_remove 39 = .ok (.aload_n 0, 1) := by decide +kernel
theorem dX3_remove_40 : decode cX3_remove 40 = .ok (.dup, 1) := by decide +kernel
theorem dX3_remove_41 : decode cX3_remove 41 = .ok (.getfield 15, 3) := by decide +kernel
theorem dX3_remove_44 : decode cX3_remove 44 = .ok (.iconst 1, 1) := by decide +kernel
theorem dX3_remove_45 : decode cX3_remove 45 = .ok (.isub, 1) := by decide +kernel
theorem dX3_remove_46 : decode cX3_remove 46 = .ok (.putfield 15, 3) := by decide +kernel
theorem dX3_remove_49 : decode cX3_remove 49 = .ok (.aload_n 0, 1) := by decide +kernel
theorem dX3_remove_50 : decode cX3_remove 50 = .ok (.invokevirtual 35, 3) := by decide +kernel
theorem dX3_remove_53 : decode cX3_remove 53 = .ok (.iload_n 2, 1) := by decide +kernel
theorem dX3_remove_54 : decode cX3_remove 54 = .ok (.ireturn, 1) := by decide +kernel
theorem dX3_forget_0 : decode cX3_forget 0 = .ok (.aload_n 0, 1) := by decide +kernel
theorem dX3_forget_1 : decode cX3_forget 1 = .ok (.iconst 0, 1) := by decide +kernel
theorem dX3_forget_2 : decode cX3_forget 2 = .ok (.putfield 22, 3) := by decide +kernel
theorem dX3_forget_5 : decode cX3_forget 5 = .ok (.return_, 1) := by decide +kernel
theorem dX3_cheapest_0 : decode cX3_cheapest 0 = .ok (.aload_n 0, 1) := by decide +kernel
theorem dX3_cheapest_1 : decode cX3_cheapest 1 = .ok (.getfield 15, 3) := by decide +kernel
theorem dX3_cheapest_4 : decode cX3_cheapest 4 = .ok (.iconst 2, 1) := by decide +kernel
theorem dX3_cheapest_5 : decode cX3_cheapest 5 = .ok (.if_icmp .ge 5, 3) := by decide +kernel
theorem dX3_cheapest_8 : decode cX3_cheapest 8 = .ok (.iconst 0, 1) := by decide +kernel
theorem dX3_cheapest_9 : decode cX3_cheapest 9 = .ok (.ireturn, 1) := by decide +kernel
theorem dX3_cheapest_10 : decode cX3_cheapest 10 = .ok (.aload_n 0, 1) := by decide +kernel
theorem dX3_cheapest_11 : decode cX3_cheapest 11 = .ok (.aload_n 1, 1) := by decide +kernel
theorem dX3_cheapest_12 : decode cX3_cheapest 12 = .ok (.invokevirtual 38, 3) := by decide +kernel
theorem dX3_cheapest_15 : decode cX3_cheapest 15 = .ok (.aload_n 0, 1) := by decide +kernel
theorem dX3_cheapest_16 : decode cX3_cheapest 16 = .ok (.getfield 19, 3) := by decide +kernel
theorem dX3_cheapest_19 : decode cX3_cheapest 19 = .ok (.aload_n 0, 1) := by decide +kernel
theorem dX3_cheapest_20 : decode cX3_cheapest 20 = .ok (.invokevirtual 42, 3) := by decide +kernel
theorem dX3_cheapest_23 : decode cX3_cheapest 23 = .ok (.bipush 36, 2) := by decide +kernel
theorem dX3_cheapest_25 : decode cX3_cheapest 25 = .ok (.imul, 1) := by decide +kernel
theorem dX3_cheapest_26 : decode cX3_cheapest 26 = .ok (.aload_n 0, 1) := by decide +kernel
theorem dX3_cheapest_27 : decode cX3_cheapest 27 = .ok (.getfield 9, 3) := by decide +kernel
theorem dX3_cheapest_30 : decode cX3_cheapest 30 = .ok (.iconst 0, 1) := by decide +kernel
theorem dX3_cheapest_31 : decode cX3_cheapest 31 = .ok (.iaload, 1) := by decide +kernel
theorem dX3_cheapest_32 : decode cX3_cheapest 32 = .ok (.iadd, 1) := by decide +kernel
theorem dX3_cheapest_33 : decode cX3_cheapest 33 = .ok (.iaload, 1) := by decide +kernel
theorem dX3_cheapest_34 : decode cX3_cheapest 34 = .ok (.ireturn, 1) := by decide +kernel
theorem dX3_isInCheapest_0 : decode cX3_isInCheapest 0 = .ok (.aload_n 0, 1) := by decide +kernel
theorem dX3_isInCheapest_1 : decode cX3_isInCheapest 1 = .ok (.getfield 15, 3) := by decide +kernel
theorem dX3_isInCheapest_4 : decode cX3_isInCheapest 4 = .ok (.iconst 2, 1) := by decide +kernel
theorem dX3_isInCheapest_5 : decode cX3_isInCheapest 5 = .ok (.if_icmp .ge 5, 3) := by decide +kernel
theorem dX3_isInCheapest_8 : decode cX3_isInCheapest 8 = .ok (.iconst 0, 1) := by decide +kernel
theorem dX3_isInCheapest_9 : decode cX3_isInCheapest 9 = .ok (.ireturn, 1) := by decide +kernel
theorem dX3_isInCheapest_10 : decode cX3_isInCheapest 10 = .ok (.aload_n 0, 1) := by decide +kernel
theorem dX3_isInCheapest_11 : decode cX3_isInCheapest 11 = .ok (.aload_n 1, 1) := by decide +kernel
theorem dX3_isInCheapest_12 : decode cX3_isInCheapest 12 = .ok (.invokevirtual 38, 3) := by decide +kernel
theorem dX3_isInCheapest_15 : decode cX3_isInCheapest 15 = .ok (.aload_n 0, 1) := by decide +kernel
theorem dX3_isInCheapest_16 : decode cX3_isInCheapest 16 = .ok (.invokevirtual 42, 3) := by decide +kernel
theorem dX3_isInCheapest_19 : decode cX3_isInCheapest 19 = .ok (.istore_n 3, 1) := by decide +kernel
theorem dX3_isInCheapest_20 : decode cX3_isInCheapest 20 = .ok (.aload_n 0, 1) := by decide +kernel
theorem dX3_isInCheapest_21 : decode cX3_isInCheapest 21 = .ok (.getfield 19, 3) := by decide +kernel
theorem dX3_isInCheapest_24 : decode cX3_isInCheapest 24 = .ok (.iload_n 3, 1) := by decide +kernel
theorem dX3_isInCheapest_25 : decode cX3_isInCheapest 25 = .ok (.bipush 36, 2) := by decide +kernel
theorem dX3_isInCheapest_27 : decode cX3_isInCheapest 27 = .ok (.imul, 1) := by decide +kernel
theorem dX3_isInCheapest_28 : decode cX3_isInCheapest 28 = .ok (.aload_n 0, 1) := by decide +kernel
theorem dX3_isInCheapest_29 : decode cX3_isInCheapest 29 = .ok (.getfield 9, 3) := by decide +kernel
theorem dX3_isInCheapest_32 : decode cX3_isInCheapest 32 = .ok (.iconst 0, 1) := by decide +kernel
theorem dX3_isInCheapest_33 : decode cX3_isInCheapest 33 = .ok (.iaload, 1) := by decide +kernel
theorem dX3_isInCheapest_34 : decode cX3_isInCheapest 34 = .ok (.iadd, 1) := by decide +kernel
theorem dX3_isInCheapest_35 : decode cX3_isInCheapest 35 = .ok (.iaload, 1) := by decide +kernel
theorem dX3_isInCheapest_36 : decode cX3_isInCheapest 36 = .ok (.istore 4, 2) := by decide +kernel
theorem dX3_isInCheapest_38 : decode cX3_isInCheapest 38 = .ok (.aload_n 1, 1) := by decide +kernel
theorem dX3_isInCheapest_39 : decode cX3_isInCheapest 39 = .ok (.iload_n 2, 1) := by decide +kernel
theorem dX3_isInCheapest_40 : decode cX3_isInCheapest 40 = .ok (.invokevirtual 46, 3) := by decide +kernel
theorem dX3_isInCheapest_43 : decode cX3_isInCheapest 43 = .ok (.istore 5, 2) := by decide +kernel
theorem dX3_isInCheapest_45 : decode cX3_isInCheapest 45 = .ok (.aload_n 1, 1) := by decide +kernel
theorem dX3_isInCheapest_46 : decode cX3_isInCheapest 46 = .ok (.iload_n 2, 1) := by decide +kernel
theorem dX3_isInCheapest_47 : decode cX3_isInCheapest 47 = .ok (.invokevirtual 52, 3) := by decide +kernel
theorem dX3_isInCheapest_50 : decode cX3_isInCheapest 50 = .ok (.istore 6, 2) := by decide +kernel
theorem dX3_isInCheapest_52 : decode cX3_isInCheapest 52 = .ok (.iconst 1, 1) := by decide +kernel
theorem dX3_isInCheapest_53 : decode cX3_isInCheapest 53 = .ok (.istore 7, 2) := by decide +kernel
theorem dX3_isInCheapest_55 : decode cX3_isInCheapest 55 = .ok (.iload 7, 2) := by decide +kernel
theorem dX3_isInCheapest_57 : decode cX3_isInCheapest 57 = .ok (.iload_n 3, 1) := by decide +kernel
theorem dX3_isInCheapest_58 : decode cX3_isInCheapest 58 = .ok (.if_icmp .ge 55, 3) := by decide +kernel
theorem dX3_isInCheapest_61 : decode cX3_isInCheapest 61 = .ok (.aload_n 0, 1) := by decide +kernel
theorem dX3_isInCheapest_62 : decode cX3_isInCheapest 62 = .ok (.getfield 19, 3) := by decide +kernel
theorem dX3_isInCheapest_65 : decode cX3_isInCheapest 65 = .ok (.iload 7, 2) := by decide +kernel
theorem dX3_isInCheapest_67 : decode cX3_isInCheapest 67 = .ok (.bipush 36, 2) := by decide +kernel
theorem dX3_isInCheapest_69 : decode cX3_isInCheapest 69 = .ok (.imul, 1) := by decide +kernel
theorem dX3_isInCheapest_70 : decode cX3_isInCheapest 70 = .ok (.iload 5, 2) := by decide +kernel
theorem dX3_isInCheapest_72 : decode cX3_isInCheapest 72 = .ok (.iadd, 1) := by decide +kernel
theorem dX3_isInCheapest_73 : decode cX3_isInCheapest 73 = .ok (.iaload, 1) := by decide +kernel
theorem dX3_isInCheapest_74 : decode cX3_isInCheapest 74 = .ok (.aload_n 0, 1) := by decide +kernel
theorem dX3_isInCheapest_75 : decode cX3_isInCheapest 75 = .ok (.getfield 19, 3) := by decide +kernel
theorem dX3_isInCheapest_78 : decode cX3_isInCheapest 78 = .ok (.iload_n 3, 1) := by decide +kernel
theorem dX3_isInCheapest_79 : decode cX3_isInCheapest 79 = .ok (.iload 7, 2) := by decide +kernel
theorem dX3_isInCheapest_81 : decode cX3_isInCheapest 81 = .ok (.isub, 1) := by decide +kernel
theorem dX3_isInCheapest_82 : decode cX3_isInCheapest 82 = .ok (.bipush 36, 2) := by decide +kernel
theorem dX3_isInCheapest_84 : decode cX3_isInCheapest 84 = .ok (.imul, 1) := by decide +kernel
theorem dX3_isInCheapest_85 : decode cX3_isInCheapest 85 = .ok (.iload 6, 2) := by decide +kernel
theorem dX3_isInCheapest_87 : decode cX3_isInCheapest 87 = .ok (.iadd, 1) := by decide +kernel
theorem dX3_isInCheapest_88 : decode cX3_isInCheapest 88 = .ok (.iaload, 1) := by decide +kernel
theorem dX3_isInCheapest_89 : decode cX3_isInCheapest 89 = .ok (.iadd, 1) := by decide +kernel
theorem dX3_isInCheapest_90 : decode cX3_isInCheapest 90 = .ok (.istore 8, 2) := by decide +kernel
theorem dX3_isInCheapest_92 : decode cX3_isInCheapest 92 = .ok (.iload 8, 2) := by decide +kernel
theorem dX3_isInCheapest_94 : decode cX3_isInCheapest 94 = .ok (.aload_n 1, 1) := by decide +kernel
theorem dX3_isInCheapest_95 : decode cX3_isInCheapest 95 = .ok (.iload_n 2, 1) := by decide +kernel
theorem dX3_isInCheapest_96 : decode cX3_isInCheapest 96 = .ok (.invokevirtual 55, 3) := by decide +kernel
theorem dX3_isInCheapest_99 : decode cX3_isInCheapest 99 = .ok (.iadd, 1) := by decide +kernel
theorem dX3_isInCheapest_100 : decode cX3_isInCheapest 100 = .ok (.iload 4, 2) := by decide +kernel
theorem dX3_isInCheapest_102 : decode cX3_isInCheapest 102 = .ok (.if_icmp .ne 5, 3) := by decide +kernel
theorem dX3_isInCheapest_105 : decode cX3_isInCheapest 105 = .ok (.iconst 1, 1) := by decide +kernel
theorem dX3_isInCheapest_106 : decode cX3_isInCheapest 106 = .ok (.ireturn, 1) := by decide +kernel
theorem dX3_isInCheapest_107 : decode cX3_isInCheapest 107 = .ok (.iinc 7 1, 3) := by decide +kernel
theorem dX3_isInCheapest_110 : decode cX3_isInCheapest 110 = .ok (.goto (-55), 3) := by decide +kernel
theorem dX3_isInCheapest_113 : decode cX3_isInCheapest 113 = .ok (.iconst 0, 1) := by decide +kernel
theorem dX3_isInCheapest_114 : decode cX3_isInCheapest 114 = .ok (.ireturn, 1) := by decide +kernel
theorem dX3_allTowns_0 : decode cX3_allTowns 0 = .ok (.iconst 1, 1) := by decide +kernel
theorem dX3_allTowns_1 : decode cX3_allTowns 1 = .ok (.aload_n 0, 1) := by decide +kernel
theorem dX3_allTowns_2 : decode cX3_allTowns 2 = .ok (.getfield 15, 3) := by decide +kernel
theorem dX3_allTowns_5 : decode cX3_allTowns 5 = .ok (.ishl, 1) := by decide +kernel
theorem dX3_allTowns_6 : decode cX3_allTowns 6 = .ok (.iconst 1, 1) := by decide +kernel
theorem dX3_allTowns_7 : decode cX3_allTowns 7 = .ok (.isub, 1) := by decide +kernel
theorem dX3_allTowns_8 : decode cX3_allTowns 8 = .ok (.ireturn, 1) := by decide +kernel
theorem dX3_joinAll_0 : decode cX3_joinAll 0 = .ok (.aload_n 0, 1) := by decide +kernel
theorem dX3_joinAll_1 : decode cX3_joinAll 1 = .ok (.getfield 22, 3) := by decide +kernel
theorem dX3_joinAll_4 : decode cX3_joinAll 4 = .ok (.ifCond .eq 4, 3) := by decide +kernel
theorem dX3_joinAll_7 : decode cX3_joinAll 7 = .ok (.return_, 1) := by decide +kernel
theorem dX3_joinAll_8 : decode cX3_joinAll 8 = .ok (.iconst 0, 1) := by decide +kernel
theorem dX3_joinAll_9 : decode cX3_joinAll 9 = .ok (.istore_n 2, 1) := by decide +kernel
theorem dX3_joinAll_10 : decode cX3_joinAll 10 = .ok (.iload_n 2, 1) := by decide +kernel
theorem dX3_joinAll_11 : decode cX3_joinAll 11 = .ok (.aload_n 0, 1) := by decide +kernel
theorem dX3_joinAll_12 : decode cX3_joinAll 12 = .ok (.getfield 15, 3) := by decide +kernel
theorem dX3_joinAll_15 : decode cX3_joinAll 15 = .ok (.if_icmp .ge 29, 3) := by decide +kernel
theorem dX3_joinAll_18 : decode cX3_joinAll 18 = .ok (.aload_n 1, 1) := by decide +kernel
theorem dX3_joinAll_19 : decode cX3_joinAll 19 = .ok (.aload_n 0, 1) := by decide +kernel
theorem dX3_joinAll_20 : decode cX3_joinAll 20 = .ok (.getfield 19, 3) := by decide +kernel
theorem dX3_joinAll_23 : decode cX3_joinAll 23 = .ok (.iconst 1, 1) := by decide +kernel
theorem dX3_joinAll_24 : decode cX3_joinAll 24 = .ok (.iload_n 2, 1) := by decide +kernel
theorem dX3_joinAll_25 : decode cX3_joinAll 25 = .ok (.ishl, 1) := by decide +kernel
theorem dX3_joinAll_26 : decode cX3_joinAll 26 = .ok (.bipush 36, 2) := by decide +kernel
theorem dX3_joinAll_28 : decode cX3_joinAll 28 = .ok (.imul, 1) := by decide +kernel
theorem dX3_joinAll_29 : decode cX3_joinAll 29 = .ok (.aload_n 0, 1) := by decide +kernel
theorem dX3_joinAll_30 : decode cX3_joinAll 30 = .ok (.getfield 9, 3) := by decide +kernel
theorem dX3_joinAll_33 : decode cX3_joinAll 33 = .ok (.iload_n 2, 1) := by decide +kernel
theorem dX3_joinAll_34 : decode cX3_joinAll 34 = .ok (.iaload, 1) := by decide +kernel
theorem dX3_joinAll_35 : decode cX3_joinAll 35 = .ok (.invokevirtual 58, 3) := by decide +kernel
theorem dX3_joinAll_38 : decode cX3_joinAll 38 = .ok (.iinc 2 1, 3) := by decide +kernel
theorem dX3_joinAll_41 : decode cX3_joinAll 41 = .ok (.goto (-31), 3) := by decide +kernel
theorem dX3_joinAll_44 : decode cX3_joinAll 44 = .ok (.aload_n 0, 1) := by decide +kernel
theorem dX3_joinAll_45 : decode cX3_joinAll 45 = .ok (.invokevirtual 42, 3) := by decide +kernel
theorem dX3_joinAll_48 : decode cX3_joinAll 48 = .ok (.istore_n 2, 1) := by decide +kernel
theorem dX3_joinAll_49 : decode cX3_joinAll 49 = .ok (.iconst 1, 1) := by decide +kernel
theorem dX3_joinAll_50 : decode cX3_joinAll 50 = .ok (.istore_n 3, 1) := by decide +kernel
theorem dX3_joinAll_51 : decode cX3_joinAll 51 = .ok (.iload_n 3, 1) := by decide +kernel
theorem dX3_joinAll_52 : decode cX3_joinAll 52 = .ok (.iload_n 2, 1) := by decide +kernel
theorem dX3_joinAll_53 : decode cX3_joinAll 53 = .ok (.if_icmp .gt 34, 3) := by decide +kernel
theorem dX3_joinAll_56 : decode cX3_joinAll 56 = .ok (.iload_n 3, 1) := by decide +kernel
theorem dX3_joinAll_57 : decode cX3_joinAll 57 = .ok (.invokestatic 62, 3) := by decide +kernel
theorem dX3_joinAll_60 : decode cX3_joinAll 60 = .ok (.iconst 1, 1) := by decide +kernel
theorem dX3_joinAll_61 : decode cX3_joinAll 61 = .ok (.if_icmp .le 20, 3) := by decide +kernel
theorem dX3_joinAll_64 : decode cX3_joinAll 64 = .ok (.aload_n 0, 1) := by decide +kernel
theorem dX3_joinAll_65 : decode cX3_joinAll 65 = .ok (.iload_n 3, 1) := by decide +kernel
theorem dX3_joinAll_66 : decode cX3_joinAll 66 = .ok (.invokevirtual 67, 3) := by decide +kernel
theorem dX3_joinAll_69 : decode cX3_joinAll 69 = .ok (.aload_n 1, 1) := by decide +kernel
theorem dX3_joinAll_70 : decode cX3_joinAll 70 = .ok (.aload_n 0, 1) := by decide +kernel
theorem dX3_joinAll_71 : decode cX3_joinAll 71 = .ok (.getfield 19, 3) := by decide +kernel
theorem dX3_joinAll_74 : decode cX3_joinAll 74 = .ok (.iload_n 3, 1) := by decide +kernel
theorem dX3_joinAll_75 : decode cX3_joinAll 75 = .ok (.bipush 36, 2) := by decide +kernel
theorem dX3_joinAll_77 : decode cX3_joinAll 77 = .ok (.imul, 1) := by decide +kernel
theorem dX3_joinAll_78 : decode cX3_joinAll 78 = .ok (.invokevirtual 71, 3) := by decide +kernel
theorem dX3_joinAll_81 : decode cX3_joinAll 81 = .ok (.iinc 3 1, 3) := by decide +kernel
theorem dX3_joinAll_84 : decode cX3_joinAll 84 = .ok (.goto (-33), 3) := by decide +kernel
theorem dX3_joinAll_87 : decode cX3_joinAll 87 = .ok (.aload_n 0, 1) := by decide +kernel
theorem dX3_joinAll_88 : decode cX3_joinAll 88 = .ok (.iconst 1, 1) := by decide +kernel
theorem dX3_joinAll_89 : decode cX3_joinAll 89 = .ok (.putfield 22, 3) := by decide +kernel
theorem dX3_joinAll_92 : decode cX3_joinAll 92 = .ok (.return_, 1) := by decide +kernel
theorem dX3_joinParts_0 : decode cX3_joinParts 0 = .ok (.iload_n 1, 1) := by decide +kernel
theorem dX3_joinParts_1 : decode cX3_joinParts 1 = .ok (.bipush 36, 2) := by decide +kernel
theorem dX3_joinParts_3 : decode cX3_joinParts 3 = .ok (.imul, 1) := by decide +kernel
theorem dX3_joinParts_4 : decode cX3_joinParts 4 = .ok (.istore_n 2, 1) := by decide +kernel
theorem dX3_joinParts_5 : decode cX3_joinParts 5 = .ok (.iconst 0, 1) := by decide +kernel
theorem dX3_joinParts_6 : decode cX3_joinParts 6 = .ok (.istore_n 3, 1) := by decide +kernel
theorem dX3_joinParts_7 : decode cX3_joinParts 7 = .ok (.iload_n 3, 1) := by decide +kernel
theorem dX3_joinParts_8 : decode cX3_joinParts 8 = .ok (.bipush 36, 2) := by decide +kernel
theorem dX3_joinParts_10 : decode cX3_joinParts 10 = .ok (.if_icmp .ge 19, 3) := by decide +kernel
theorem dX3_joinParts_13 : decode cX3_joinParts 13 = .ok (.aload_n 0, 1) := by decide +kernel
theorem dX3_joinParts_14 : decode cX3_joinParts 14 = .ok (.getfield 19, 3) := by decide +kernel
theorem dX3_joinParts_17 : decode cX3_joinParts 17 = .ok (.iload_n 2, 1) := by decide +kernel
theorem dX3_joinParts_18 : decode cX3_joinParts 18 = .ok (.iload_n 3, 1) := by decide +kernel
theorem dX3_joinParts_19 : decode cX3_joinParts 19 = .ok (.iadd, 1) := by decide +kernel
theorem dX3_joinParts_20 : decode cX3_joinParts 20 = .ok (.ldc 75, 2) := by decide +kernel
theorem dX3_joinParts_22 : decode cX3_joinParts 22 = .ok (.iastore, 1) := by decide +kernel
theorem dX3_joinParts_23 : decode cX3_joinParts 23 = .ok (.iinc 3 1, 3) := by decide +kernel
theorem dX3_joinParts_26 : decode cX3_joinParts 26 = .ok (.goto (-19), 3) := by decide +kernel
theorem dX3_joinParts_29 : decode cX3_joinParts 29 = .ok (.iconst 1, 1) := by decide +kernel
theorem dX3_joinParts_30 : decode cX3_joinParts 30 = .ok (.istore_n 3, 1) := by decide +kernel
theorem dX3_joinParts_31 : decode cX3_joinParts 31 = .ok (.iload_n 3, 1) := by decide +kernel
theorem dX3_joinParts_32 : decode cX3_joinParts 32 = .ok (.iload_n 1, 1) := by decide +kernel
theorem dX3_joinParts_33 : decode cX3_joinParts 33 = .ok (.if_icmp .ge 94, 3) := by decide +kernel
theorem dX3_joinParts_36 : decode cX3_joinParts 36 = .ok (.iload_n 1, 1) := by decide +kernel
theorem dX3_joinParts_37 : decode cX3_joinParts 37 = .ok (.iload_n 3, 1) := by decide +kernel
theorem dX3_joinParts_38 : decode cX3_joinParts 38 = .ok (.isub, 1) := by decide +kernel
theorem dX3_joinParts_39 : decode cX3_joinParts 39 = .ok (.istore 4, 2) := by decide +kernel
theorem dX3_joinParts_41 : decode cX3_joinParts 41 = .ok (.iload_n 3, 1) := by decide +kernel
theorem dX3_joinParts_42 : decode cX3_joinParts 42 = .ok (.iload_n 1, 1) := by decide +kernel
theorem dX3_joinParts_43 : decode cX3_joinParts 43 = .ok (.iand, 1) := by decide +kernel
theorem dX3_joinParts_44 : decode cX3_joinParts 44 = .ok (.iload_n 3, 1) := by decide +kernel
theorem dX3_joinParts_45 : decode cX3_joinParts 45 = .ok (.if_icmp .ne 76, 3) := by decide +kernel
theorem dX3_joinParts_48 : decode cX3_joinParts 48 = .ok (.iload_n 3, 1) := by decide +kernel
theorem dX3_joinParts_49 : decode cX3_joinParts 49 = .ok (.iload 4, 2) := by decide +kernel
theorem dX3_joinParts_51 : decode cX3_joinParts 51 = .ok (.if_icmp .ge 70, 3) := by decide +kernel
theorem dX3_joinParts_54 : decode cX3_joinParts 54 = .ok (.iconst 0, 1) := by decide +kernel
theorem dX3_joinParts_55 : decode cX3_joinParts 55 = .ok (.istore 5, 2) := by decide +kernel
theorem dX3_joinParts_57 : decode cX3_joinParts 57 = .ok (.iload 5, 2) := by decide +kernel
theorem dX3_joinParts_59 : decode cX3_joinParts 59 = .ok (.bipush 36, 2) := by decide +kernel
theorem dX3_joinParts_61 : decode cX3_joinParts 61 = .ok (.if_icmp .ge 60, 3) := by decide +kernel
theorem dX3_joinParts_64 : decode cX3_joinParts 64 = .ok (.aload_n 0, 1) := by decide +kernel
theorem dX3_joinParts_65 : decode cX3_joinParts 65 = .ok (.getfield 19, 3) := by decide +kernel
theorem dX3_joinParts_68 : decode cX3_joinParts 68 = .ok (.iload_n 3, 1) := by decide +kernel
theorem dX3_joinParts_69 : decode cX3_joinParts 69 = .ok (.bipush 36, 2) := by decide +kernel
theorem dX3_joinParts_71 : decode cX3_joinParts 71 = .ok (.imul, 1) := by decide +kernel
theorem dX3_joinParts_72 : decode cX3_joinParts 72 = .ok (.iload 5, 2) := by decide +kernel
theorem dX3_joinParts_74 : decode cX3_joinParts 74 = .ok (.iadd, 1) := by decide +kernel
theorem dX3_joinParts_75 : decode cX3_joinParts 75 = .ok (.iaload, 1) := by decide +kernel
theorem dX3_joinParts_76 : decode cX3_joinParts 76 = .ok (.aload_n 0, 1) := by decide +kernel
theorem dX3_joinParts_77 : decode cX3_joinParts 77 = .ok (.getfield 19, 3) := by decide +kernel
theorem dX3_joinParts_80 : decode cX3_joinParts 80 = .ok (.iload 4, 2) := by decide +kernel
theorem dX3_joinParts_82 : decode cX3_joinParts 82 = .ok (.bipush 36, 2) := by decide +kernel
theorem dX3_joinParts_84 : decode cX3_joinParts 84 = .ok (.imul, 1) := by decide +kernel
theorem dX3_joinParts_85 : decode cX3_joinParts 85 = .ok (.iload 5, 2) := by decide +kernel
theorem dX3_joinParts_87 : decode cX3_joinParts 87 = .ok (.iadd, 1) := by decide +kernel
theorem dX3_joinParts_88 : decode cX3_joinParts 88 = .ok (.iaload, 1) := by decide +kernel
theorem dX3_joinParts_89 : decode cX3_joinParts 89 = .ok (.iadd, 1) := by decide +kernel
theorem dX3_joinParts_90 : decode cX3_joinParts 90 = .ok (.istore 6, 2) := by decide +kernel
theorem dX3_joinParts_92 : decode cX3_joinParts 92 = .ok (.aload_n 0, 1) := by decide +kernel
theorem dX3_joinParts_93 : decode cX3_joinParts 93 = .ok (.getfield 19, 3) := by decide +kernel
theorem dX3_joinParts_96 : decode cX3_joinParts 96 = .ok (.iload_n 2, 1) := by decide +kernel
theorem dX3_joinParts_97 : decode cX3_joinParts 97 = .ok (.iload 5, 2) := by decide +kernel
theorem dX3_joinParts_99 : decode cX3_joinParts 99 = .ok (.iadd, 1) := by decide +kernel
theorem dX3_joinParts_100 : decode cX3_joinParts 100 = .ok (.aload_n 0, 1) := by decide +kernel
theorem dX3_joinParts_101 : decode cX3_joinParts 101 = .ok (.getfield 19, 3) := by decide +kernel
theorem dX3_joinParts_104 : decode cX3_joinParts 104 = .ok (.iload_n 2, 1) := by decide +kernel
theorem dX3_joinParts_105 : decode cX3_joinParts 105 = .ok (.iload 5, 2) := by decide +kernel
theorem dX3_joinParts_107 : decode cX3_joinParts 107 = .ok (.iadd, 1) := by decide +kernel
theorem dX3_joinParts_108 : decode cX3_joinParts 108 = .ok (.iaload, 1) := by decide +kernel
theorem dX3_joinParts_109 : decode cX3_joinParts 109 = .ok (.iload 6, 2) := by decide +kernel
theorem dX3_joinParts_111 : decode cX3_joinParts 111 = .ok (.invokestatic 76, 3) := by decide +kernel
theorem dX3_joinParts_114 : decode cX3_joinParts 114 = .ok (.iastore, 1) := by decide +kernel
theorem dX3_joinParts_115 : decode cX3_joinParts 115 = .ok (.iinc 5 1, 3) := by decide +kernel
theorem dX3_joinParts_118 : decode cX3_joinParts 118 = .ok (.goto (-61), 3) := by decide +kernel
theorem dX3_joinParts_121 : decode cX3_joinParts 121 = .ok (.iinc 3 1, 3) := by decide +kernel
theorem dX3_joinParts_124 : decode cX3_joinParts 124 = .ok (.goto (-93), 3) := by decide +kernel
theorem dX3_joinParts_127 : decode cX3_joinParts 127 = .ok (.return_, 1) := by decide +kernel
theorem dX3_cheapestOfShapes_0 : decode cX3_cheapestOfShapes 0 = .ok (.aload_n 0, 1) := by decide +kernel
theorem dX3_cheapestOfShapes_1 : decode cX3_cheapestOfShapes 1 = .ok (.getfield 15, 3) := by decide +kernel
theorem dX3_cheapestOfShapes_4 : decode cX3_cheapestOfShapes 4 = .ok (.iconst 4, 1) := by decide +kernel
theorem dX3_cheapestOfShapes_5 : decode cX3_cheapestOfShapes 5 = .ok (.if_icmp .le 5, 3) := by decide +kernel
theorem dX3_cheapestOfShapes_8 : decode cX3_cheapestOfShapes 8 = .ok (.iconst (-1), 1) := by decide +kernel
theorem dX3_cheapestOfShapes_9 : decode cX3_cheapestOfShapes 9 = .ok (.ireturn, 1) := by decide +kernel
theorem dX3_cheapestOfShapes_10 : decode cX3_cheapestOfShapes 10 = .ok (.aload_n 0, 1) := by decide +kernel
theorem dX3_cheapestOfShapes_11 : decode cX3_cheapestOfShapes 11 = .ok (.getfield 15, 3) := by decide +kernel
theorem dX3_cheapestOfShapes_14 : decode cX3_cheapestOfShapes 14 = .ok (.iconst 2, 1) := by decide +kernel
theorem dX3_cheapestOfShapes_15 : decode cX3_cheapestOfShapes 15 = .ok (.if_icmp .ge 5, 3) := by decide +kernel
theorem dX3_cheapestOfShapes_18 : decode cX3_cheapestOfShapes 18 = .ok (.iconst 0, 1) := by decide +kernel
theorem dX3_cheapestOfShapes_19 : decode cX3_cheapestOfShapes 19 = .ok (.ireturn, 1) := by decide +kernel
theorem dX3_cheapestOfShapes_20 : decode cX3_cheapestOfShapes 20 = .ok (.aload_n 0, 1) := by decide +kernel
theorem dX3_cheapestOfShapes_21 : decode cX3_cheapestOfShapes 21 = .ok (.aload_n 1, 1) := by decide +kernel
theorem dX3_cheapestOfShapes_22 : decode cX3_cheapestOfShapes 22 = .ok (.invokevirtual 82, 3) := by decide +kernel
theorem dX3_cheapestOfShapes_25 : decode cX3_cheapestOfShapes 25 = .ok (.ldc 75, 2) := by decide +kernel
theorem dX3_cheapestOfShapes_27 : decode cX3_cheapestOfShapes 27 = .ok (.istore_n 2, 1) := by decide +kernel
theorem dX3_cheapestOfShapes_28 : decode cX3_cheapestOfShapes 28 = .ok (.iconst 0, 1) := by decide +kernel
theorem dX3_cheapestOfShapes_29 : decode cX3_cheapestOfShapes 29 = .ok (.istore_n 3, 1) := by decide +kernel
theorem dX3_cheapestOfShapes_30 : decode cX3_cheapestOfShapes 30 = .ok (.iload_n 3, 1) := by decide +kernel
theorem dX3_cheapestOfShapes_31 : decode cX3_cheapestOfShapes 31 = .ok (.bipush 36, 2) := by decide +kernel
theorem dX3_cheapestOfShapes_33 : decode cX3_cheapestOfShapes 33 = .ok (.if_icmp .ge 55, 3) := by decide +kernel
theorem dX3_cheapestOfShapes_36 : decode cX3_cheapestOfShapes 36 = .ok (.aload_n 1, 1) := by decide +kernel
theorem dX3_cheapestOfShapes_37 : decode cX3_cheapestOfShapes 37 = .ok (.aload_n 0, 1) := by decide +kernel
theorem dX3_cheapestOfShapes_38 : decode cX3_cheapestOfShapes 38 = .ok (.getfield 29, 3) := by decide +kernel
theorem dX3_cheapestOfShapes_41 : decode cX3_cheapestOfShapes 41 = .ok (.iconst 0, 1) := by decide +kernel
theorem dX3_cheapestOfShapes_42 : decode cX3_cheapestOfShapes 42 = .ok (.iload_n 3, 1) := by decide +kernel
theorem dX3_cheapestOfShapes_43 : decode cX3_cheapestOfShapes 43 = .ok (.invokevirtual 58, 3) := by decide +kernel
theorem dX3_cheapestOfShapes_46 : decode cX3_cheapestOfShapes 46 = .ok (.iload_n 3, 1) := by decide +kernel
theorem dX3_cheapestOfShapes_47 : decode cX3_cheapestOfShapes 47 = .ok (.istore 4, 2) := by decide +kernel
theorem dX3_cheapestOfShapes_49 : decode cX3_cheapestOfShapes 49 = .ok (.iload 4, 2) := by decide +kernel
theorem dX3_cheapestOfShapes_51 : decode cX3_cheapestOfShapes 51 = .ok (.bipush 36, 2) := by decide +kernel
theorem dX3_cheapestOfShapes_53 : decode cX3_cheapestOfShapes 53 = .ok (.if_icmp .ge 29, 3) := by decide +kernel
theorem dX3_cheapestOfShapes_56 : decode cX3_cheapestOfShapes 56 = .ok (.iload_n 2, 1) := by decide +kernel
theorem dX3_cheapestOfShapes_57 : decode cX3_cheapestOfShapes 57 = .ok (.aload_n 0, 1) := by decide +kernel
theorem dX3_cheapestOfShapes_58 : decode cX3_cheapestOfShapes 58 = .ok (.getfield 29, 3) := by decide +kernel
theorem dX3_cheapestOfShapes_61 : decode cX3_cheapestOfShapes 61 = .ok (.iload 4, 2) := by decide +kernel
theorem dX3_cheapestOfShapes_63 : decode cX3_cheapestOfShapes 63 = .ok (.iaload, 1) := by decide +kernel
theorem dX3_cheapestOfShapes_64 : decode cX3_cheapestOfShapes 64 = .ok (.aload_n 0, 1) := by decide +kernel
theorem dX3_cheapestOfShapes_65 : decode cX3_cheapestOfShapes 65 = .ok (.iload_n 3, 1) := by decide +kernel
theorem dX3_cheapestOfShapes_66 : decode cX3_cheapestOfShapes 66 = .ok (.iload 4, 2) := by decide +kernel
theorem dX3_cheapestOfShapes_68 : decode cX3_cheapestOfShapes 68 = .ok (.invokevirtual 85, 3) := by decide +kernel
theorem dX3_cheapestOfShapes_71 : decode cX3_cheapestOfShapes 71 = .ok (.iadd, 1) := by decide +kernel
theorem dX3_cheapestOfShapes_72 : decode cX3_cheapestOfShapes 72 = .ok (.invokestatic 76, 3) := by decide +kernel
theorem dX3_cheapestOfShapes_75 : decode cX3_cheapestOfShapes 75 = .ok (.istore_n 2, 1) := by decide +kernel
theorem dX3_cheapestOfShapes_76 : decode cX3_cheapestOfShapes 76 = .ok (.iinc 4 1, 3) := by decide +kernel
theorem dX3_cheapestOfShapes_79 : decode cX3_cheapestOfShapes 79 = .ok (.goto (-30), 3) := by decide +kernel
theorem dX3_cheapestOfShapes_82 : decode cX3_cheapestOfShapes 82 = .ok (.iinc 3 1, 3) := by decide +kernel
theorem dX3_cheapestOfShapes_85 : decode cX3_cheapestOfShapes 85 = .ok (.goto (-55), 3) := by decide +kernel
theorem dX3_cheapestOfShapes_88 : decode cX3_cheapestOfShapes 88 = .ok (.iload_n 2, 1) := by decide +kernel
theorem dX3_cheapestOfShapes_89 : decode cX3_cheapestOfShapes 89 = .ok (.ireturn, 1) := by decide +kernel
theorem dX3_hungOn_0 : decode cX3_hungOn 0 = .ok (.iconst 0, 1) := by decide +kernel
theorem dX3_hungOn_1 : decode cX3_hungOn 1 = .ok (.istore_n 3, 1) := by decide +kernel
theorem dX3_hungOn_2 : decode cX3_hungOn 2 = .ok (.iconst 0, 1) := by decide +kernel
theorem dX3_hungOn_3 : decode cX3_hungOn 3 = .ok (.istore 4, 2) := by decide +kernel
theorem dX3_hungOn_5 : decode cX3_hungOn 5 = .ok (.iload 4, 2) := by decide +kernel
theorem dX3_hungOn_7 : decode cX3_hungOn 7 = .ok (.aload_n 0, 1) := by decide +kernel
theorem dX3_hungOn_8 : decode cX3_hungOn 8 = .ok (.getfield 15, 3) := by decide +kernel
theorem dX3_hungOn_11 : decode cX3_hungOn 11 = .ok (.if_icmp .ge 39, 3) := by decide +kernel
theorem dX3_hungOn_14 : decode cX3_hungOn 14 = .ok (.iload_n 3, 1) := by decide +kernel
theorem dX3_hungOn_15 : decode cX3_hungOn 15 = .ok (.aload_n 0, 1) := by decide +kernel
theorem dX3_hungOn_16 : decode cX3_hungOn 16 = .ok (.getfield 26, 3) := by decide +kernel
theorem dX3_hungOn_19 : decode cX3_hungOn 19 = .ok (.iload 4, 2) := by decide +kernel
theorem dX3_hungOn_21 : decode cX3_hungOn 21 = .ok (.bipush 36, 2) := by decide +kernel
theorem dX3_hungOn_23 : decode cX3_hungOn 23 = .ok (.imul, 1) := by decide +kernel
theorem dX3_hungOn_24 : decode cX3_hungOn 24 = .ok (.iload_n 1, 1) := by decide +kernel
theorem dX3_hungOn_25 : decode cX3_hungOn 25 = .ok (.iadd, 1) := by decide +kernel
theorem dX3_hungOn_26 : decode cX3_hungOn 26 = .ok (.iaload, 1) := by decide +kernel
theorem dX3_hungOn_27 : decode cX3_hungOn 27 = .ok (.aload_n 0, 1) := by decide +kernel
theorem dX3_hungOn_28 : decode cX3_hungOn 28 = .ok (.getfield 26, 3) := by decide +kernel
theorem dX3_hungOn_31 : decode cX3_hungOn 31 = .ok (.iload 4, 2) := by decide +kernel
theorem dX3_hungOn_33 : decode cX3_hungOn 33 = .ok (.bipush 36, 2) := by decide +kernel
theorem dX3_hungOn_35 : decode cX3_hungOn 35 = .ok (.imul, 1) := by decide +kernel
theorem dX3_hungOn_36 : decode cX3_hungOn 36 = .ok (.iload_n 2, 1) := by decide +kernel
theorem dX3_hungOn_37 : decode cX3_hungOn 37 = .ok (.iadd, 1) := by decide +kernel
theorem dX3_hungOn_38 : decode cX3_hungOn 38 = .ok (.iaload, 1) := by decide +kernel
theorem dX3_hungOn_39 : decode cX3_hungOn 39 = .ok (.invokestatic 76, 3) := by decide +kernel
theorem dX3_hungOn_42 : decode cX3_hungOn 42 = .ok (.iadd, 1) := by decide +kernel
theorem dX3_hungOn_43 : decode cX3_hungOn 43 = .ok (.istore_n 3, 1) := by decide +kernel
theorem dX3_hungOn_44 : decode cX3_hungOn 44 = .ok (.iinc 4 1, 3) := by decide +kernel
theorem dX3_hungOn_47 : decode cX3_hungOn 47 = .ok (.goto (-42), 3) := by decide +kernel
theorem dX3_hungOn_50 : decode cX3_hungOn 50 = .ok (.iload_n 3, 1) := by decide +kernel
theorem dX3_hungOn_51 : decode cX3_hungOn 51 = .ok (.ireturn, 1) := by decide +kernel
theorem dX3_lowerBound_0 : decode cX3_lowerBound 0 = .ok (.aload_n 0, 1) := by decide +kernel
theorem dX3_lowerBound_1 : decode cX3_lowerBound 1 = .ok (.getfield 15, 3) := by decide +kernel
theorem dX3_lowerBound_4 : decode cX3_lowerBound 4 = .ok (.iconst 2, 1) := by decide +kernel
theorem dX3_lowerBound_5 : decode cX3_lowerBound 5 = .ok (.if_icmp .ge 5, 3) := by decide +kernel
theorem dX3_lowerBound_8 : decode cX3_lowerBound 8 = .ok (.iconst 0, 1) := by decide +kernel
theorem dX3_lowerBound_9 : decode cX3_lowerBound 9 = .ok (.ireturn, 1) := by decide +kernel
theorem dX3_lowerBound_10 : decode cX3_lowerBound 10 = .ok (.aload_n 0, 1) := by decide +kernel
theorem dX3_lowerBound_11 : decode cX3_lowerBound 11 = .ok (.aload_n 1, 1) := by decide +kernel
theorem dX3_lowerBound_12 : decode cX3_lowerBound 12 = .ok (.invokevirtual 82, 3) := by decide +kernel
theorem dX3_lowerBound_15 : decode cX3_lowerBound 15 = .ok (.aload_n 0, 1) := by decide +kernel
theorem dX3_lowerBound_16 : decode cX3_lowerBound 16 = .ok (.invokevirtual 88, 3) := by decide +kernel
theorem dX3_lowerBound_19 : decode cX3_lowerBound 19 = .ok (.invokestatic 91, 3) := by decide +kernel
theorem dX3_lowerBound_22 : decode cX3_lowerBound 22 = .ok (.aload_n 0, 1) := by decide +kernel
theorem dX3_lowerBound_23 : decode cX3_lowerBound 23 = .ok (.invokevirtual 94, 3) := by decide +kernel
theorem dX3_lowerBound_26 : decode cX3_lowerBound 26 = .ok (.aload_n 0, 1) := by decide +kernel
theorem dX3_lowerBound_27 : decode cX3_lowerBound 27 = .ok (.invokevirtual 97, 3) := by decide +kernel
theorem dX3_lowerBound_30 : decode cX3_lowerBound 30 = .ok (.invokestatic 91, 3) := by decide +kernel
theorem dX3_lowerBound_33 : decode cX3_lowerBound 33 = .ok (.invokestatic 100, 3) := by decide +kernel
theorem dX3_lowerBound_36 : decode cX3_lowerBound 36 = .ok (.invokestatic 100, 3) := by decide +kernel
theorem dX3_lowerBound_39 : decode cX3_lowerBound 39 = .ok (.ireturn, 1) := by decide +kernel
theorem dX3_halfUp_0 : decode cX3_halfUp 0 = .ok (.iload_n 0, 1) := by decide +kernel
theorem dX3_halfUp_1 : decode cX3_halfUp 1 = .ok (.iconst 1, 1) := by decide +kernel
theorem dX3_halfUp_2 : decode cX3_halfUp 2 = .ok (.iadd, 1) := by decide +kernel
theorem dX3_halfUp_3 : decode cX3_halfUp 3 = .ok (.iconst 2, 1) := by decide +kernel
theorem dX3_halfUp_4 : decode cX3_halfUp 4 = .ok (.idiv, 1) := by decide +kernel
theorem dX3_halfUp_5 : decode cX3_halfUp 5 = .ok (.ireturn, 1) := by decide +kernel
theorem dX3_measureTowns_0 : decode cX3_measureTowns 0 = .ok (.iconst 0, 1) := by decide +kernel
theorem dX3_measureTowns_1 : decode cX3_measureTowns 1 = .ok (.istore_n 2, 1) := by decide +kernel
theorem dX3_measureTowns_2 : decode cX3_measureTowns 2 = .ok (.iload_n 2, 1) := by decide +kernel
theorem dX3_measureTowns_3 : decode cX3_measureTowns 3 = .ok (.aload_n 0, 1) := by decide +kernel
theorem dX3_measureTowns_4 : decode cX3_measureTowns 4 = .ok (.getfield 15, 3) := by decide +kernel
theorem dX3_measureTowns_7 : decode cX3_measureTowns 7 = .ok (.if_icmp .ge 27, 3) := by decide +kernel
theorem dX3_measureTowns_10 : decode cX3_measureTowns 10 = .ok (.aload_n 1, 1) := by decide +kernel
theorem dX3_measureTowns_11 : decode cX3_measureTowns 11 = .ok (.aload_n 0, 1) := by decide +kernel
theorem dX3_measureTowns_12 : decode cX3_measureTowns 12 = .ok (.getfield 26, 3) := by decide +kernel
theorem dX3_measureTowns_15 : decode cX3_measureTowns 15 = .ok (.iload_n 2, 1) := by decide +kernel
theorem dX3_measureTowns_16 : decode cX3_measureTowns 16 = .ok (.bipush 36, 2) := by decide +kernel
theorem dX3_measureTowns_18 : decode cX3_measureTowns 18 = .ok (.imul, 1) := by decide +kernel
theorem dX3_measureTowns_19 : decode cX3_measureTowns 19 = .ok (.aload_n 0, 1) := by decide +kernel
theorem dX3_measureTowns_20 : decode cX3_measureTowns 20 = .ok (.getfield 9, 3) := by decide +kernel
theorem dX3_measureTowns_23 : decode cX3_measureTowns 23 = .ok (.iload_n 2, 1) := by decide +kernel
theorem dX3_measureTowns_24 : decode cX3_measureTowns 24 = .ok (.iaload, 1) := by decide +kernel
theorem dX3_measureTowns_25 : decode cX3_measureTowns 25 = .ok (.invokevirtual 58, 3) := by decide +kernel
theorem dX3_measureTowns_28 : decode cX3_measureTowns 28 = .ok (.iinc 2 1, 3) := by decide +kernel
theorem dX3_measureTowns_31 : decode cX3_measureTowns 31 = .ok (.goto (-29), 3) := by decide +kernel
theorem dX3_measureTowns_34 : decode cX3_measureTowns 34 = .ok (.return_, 1) := by decide +kernel
theorem dX3_between_0 : decode cX3_between 0 = .ok (.aload_n 0, 1) := by decide +kernel
theorem dX3_between_1 : decode cX3_between 1 = .ok (.getfield 26, 3) := by decide +kernel
theorem dX3_between_4 : decode cX3_between 4 = .ok (.iload_n 1, 1) := by decide +kernel
theorem dX3_between_5 : decode cX3_between 5 = .ok (.bipush 36, 2) := by decide +kernel
theorem dX3_between_7 : decode cX3_between 7 = .ok (.imul, 1) := by decide +kernel
theorem dX3_between_8 : decode cX3_between 8 = .ok (.aload_n 0, 1) := by decide +kernel
theorem dX3_between_9 : decode cX3_between 9 = .ok (.getfield 9, 3) := by decide +kernel
theorem dX3_between_12 : decode cX3_between 12 = .ok (.iload_n 2, 1) := by decide +kernel
theorem dX3_between_13 : decode cX3_between 13 = .ok (.iaload, 1) := by decide +kernel
theorem dX3_between_14 : decode cX3_between 14 = .ok (.iadd, 1) := by decide +kernel
theorem dX3_between_15 : decode cX3_between 15 = .ok (.iaload, 1) := by decide +kernel
theorem dX3_between_16 : decode cX3_between 16 = .ok (.ireturn, 1) := by decide +kernel
theorem dX3_farthestPair_0 : decode cX3_farthestPair 0 = .ok (.iconst 0, 1) := by decide +kernel
theorem dX3_farthestPair_1 : decode cX3_farthestPair 1 = .ok (.istore_n 1, 1) := by decide +kernel
theorem dX3_farthestPair_2 : decode cX3_farthestPair 2 = .ok (.iconst 0, 1) := by decide +kernel
theorem dX3_farthestPair_3 : decode cX3_farthestPair 3 = .ok (.istore_n 2, 1) := by decide +kernel
theorem dX3_farthestPair_4 : decode cX3_farthestPair 4 = .ok (.iload_n 2, 1) := by decide +kernel
theorem dX3_farthestPair_5 : decode cX3_farthestPair 5 = .ok (.aload_n 0, 1) := by decide +kernel
theorem dX3_farthestPair_6 : decode cX3_farthestPair 6 = .ok (.getfield 15, 3) := by decide +kernel
theorem dX3_farthestPair_9 : decode cX3_farthestPair 9 = .ok (.if_icmp .ge 38, 3) := by decide +kernel
theorem dX3_farthestPair_12 : decode cX3_farthestPair 12 = .ok (.iload_n 2, 1) := by decide +kernel
theorem dX3_farthestPair_13 : decode cX3_farthestPair 13 = .ok (.iconst 1, 1) := by decide +kernel
theorem dX3_farthestPair_14 : decode cX3_farthestPair 14 = .ok (.iadd, 1) := by decide +kernel
theorem dX3_farthestPair_15 : decode cX3_farthestPair 15 = .ok (.istore_n 3, 1) := by decide +kernel
theorem dX3_farthestPair_16 : decode cX3_farthestPair 16 = .ok (.iload_n 3, 1) := by decide +kernel
theorem dX3_farthestPair_17 : decode cX3_farthestPair 17 = .ok (.aload_n 0, 1) := by decide +kernel
theorem dX3_farthestPair_18 : decode cX3_farthestPair 18 = .ok (.getfield 15, 3) := by decide +kernel
theorem dX3_farthestPair_21 : decode cX3_farthestPair 21 = .ok (.if_icmp .ge 20, 3) := by decide +kernel
theorem dX3_farthestPair_24 : decode cX3_farthestPair 24 = .ok (.iload_n 1, 1) := by decide +kernel
theorem dX3_farthestPair_25 : decode cX3_farthestPair 25 = .ok (.aload_n 0, 1) := by decide +kernel
theorem dX3_farthestPair_26 : decode cX3_farthestPair 26 = .ok (.iload_n 2, 1) := by decide +kernel
theorem dX3_farthestPair_27 : decode cX3_farthestPair 27 = .ok (.iload_n 3, 1) := by decide +kernel
theorem dX3_farthestPair_28 : decode cX3_farthestPair 28 = .ok (.invokevirtual 103, 3) := by decide +kernel
theorem dX3_farthestPair_31 : decode cX3_farthestPair 31 = .ok (.invokestatic 100, 3) := by decide +kernel
theorem dX3_farthestPair_34 : decode cX3_farthestPair 34 = .ok (.istore_n 1, 1) := by decide +kernel
theorem dX3_farthestPair_35 : decode cX3_farthestPair 35 = .ok (.iinc 3 1, 3) := by decide +kernel
theorem dX3_farthestPair_38 : decode cX3_farthestPair 38 = .ok (.goto (-22), 3) := by decide +kernel
theorem dX3_farthestPair_41 : decode cX3_farthestPair 41 = .ok (.iinc 2 1, 3) := by decide +kernel
theorem dX3_farthestPair_44 : decode cX3_farthestPair 44 = .ok (.goto (-40), 3) := by decide +kernel
theorem dX3_farthestPair_47 : decode cX3_farthestPair 47 = .ok (.iload_n 1, 1) := by decide +kernel
theorem dX3_farthestPair_48 : decode cX3_farthestPair 48 = .ok (.ireturn, 1) := by decide +kernel
theorem dX3_farthestThree_0 : decode cX3_farthestThree 0 = .ok (.iconst 0, 1) := by decide +kernel
theorem dX3_farthestThree_1 : decode cX3_farthestThree 1 = .ok (.istore_n 1, 1) := by decide +kernel
theorem dX3_farthestThree_2 : decode cX3_farthestThree 2 = .ok (.iconst 0, 1) := by decide +kernel
theorem dX3_farthestThree_3 : decode cX3_farthestThree 3 = .ok (.istore_n 2, 1) := by decide +kernel
theorem dX3_farthestThree_4 : decode cX3_farthestThree 4 = .ok (.iload_n 2, 1) := by decide +kernel
theorem dX3_farthestThree_5 : decode cX3_farthestThree 5 = .ok (.aload_n 0, 1) := by decide +kernel
theorem dX3_farthestThree_6 : decode cX3_farthestThree 6 = .ok (.getfield 15, 3) := by decide +kernel
theorem dX3_farthestThree_9 : decode cX3_farthestThree 9 = .ok (.if_icmp .ge 74, 3) := by decide +kernel
theorem dX3_farthestThree_12 : decode cX3_farthestThree 12 = .ok (.iload_n 2, 1) := by decide +kernel
theorem dX3_farthestThree_13 : decode cX3_farthestThree 13 = .ok (.iconst 1, 1) := by decide +kernel
theorem dX3_farthestThree_14 : decode cX3_farthestThree 14 = .ok (.iadd, 1) := by decide +kernel
theorem dX3_farthestThree_15 : decode cX3_farthestThree 15 = .ok (.istore_n 3, 1) := by decide +kernel
theorem dX3_farthestThree_16 : decode cX3_farthestThree 16 = .ok (.iload_n 3, 1) := by decide +kernel
theorem dX3_farthestThree_17 : decode cX3_farthestThree 17 = .ok (.aload_n 0, 1) := by decide +kernel
theorem dX3_farthestThree_18 : decode cX3_farthestThree 18 = .ok (.getfield 15, 3) := by decide +kernel
theorem dX3_farthestThree_21 : decode cX3_farthestThree 21 = .ok (.if_icmp .ge 56, 3) := by decide +kernel
theorem dX3_farthestThree_24 : decode cX3_farthestThree 24 = .ok (.iload_n 3, 1) := by decide +kernel
theorem dX3_farthestThree_25 : decode cX3_farthestThree 25 = .ok (.iconst 1, 1) := by decide +kernel
theorem dX3_farthestThree_26 : decode cX3_farthestThree 26 = .ok (.iadd, 1) := by decide +kernel
theorem dX3_farthestThree_27 : decode cX3_farthestThree 27 = .ok (.istore 4, 2) := by decide +kernel
theorem dX3_farthestThree_29 : decode cX3_farthestThree 29 = .ok (.iload 4, 2) := by decide +kernel
theorem dX3_farthestThree_31 : decode cX3_farthestThree 31 = .ok (.aload_n 0, 1) := by decide +kernel
theorem dX3_farthestThree_32 : decode cX3_farthestThree 32 = .ok (.getfield 15, 3) := by decide +kernel
theorem dX3_farthestThree_35 : decode cX3_farthestThree 35 = .ok (.if_icmp .ge 36, 3) := by decide +kernel
theorem dX3_farthestThree_38 : decode cX3_farthestThree 38 = .ok (.iload_n 1, 1) := by decide +kernel
theorem dX3_farthestThree_39 : decode cX3_farthestThree 39 = .ok (.aload_n 0, 1) := by decide +kernel
theorem dX3_farthestThree_40 : decode cX3_farthestThree 40 = .ok (.iload_n 2, 1) := by decide +kernel
theorem dX3_farthestThree_41 : decode cX3_farthestThree 41 = .ok (.iload_n 3, 1) := by decide +kernel
theorem dX3_farthestThree_42 : decode cX3_farthestThree 42 = .ok (.invokevirtual 103, 3) := by decide +kernel
theorem dX3_farthestThree_45 : decode cX3_farthestThree 45 = .ok (.aload_n 0, 1) := by decide +kernel
theorem dX3_farthestThree_46 : decode cX3_farthestThree 46 = .ok (.iload_n 2, 1) := by decide +kernel
theorem dX3_farthestThree_47 : decode cX3_farthestThree 47 = .ok (.iload 4, 2) := by decide +kernel
theorem dX3_farthestThree_49 : decode cX3_farthestThree 49 = .ok (.invokevirtual 103, 3) := by decide +kernel
theorem dX3_farthestThree_52 : decode cX3_farthestThree 52 = .ok (.iadd, 1) := by decide +kernel
theorem dX3_farthestThree_53 : decode cX3_farthestThree 53 = .ok (.aload_n 0, 1) := by decide +kernel
theorem dX3_farthestThree_54 : decode cX3_farthestThree 54 = .ok (.iload_n 3, 1) := by decide +kernel
theorem dX3_farthestThree_55 : decode cX3_farthestThree 55 = .ok (.iload 4, 2) := by decide +kernel
theorem dX3_farthestThree_57 : decode cX3_farthestThree 57 = .ok (.invokevirtual 103, 3) := by decide +kernel
theorem dX3_farthestThree_60 : decode cX3_farthestThree 60 = .ok (.iadd, 1) := by decide +kernel
theorem dX3_farthestThree_61 : decode cX3_farthestThree 61 = .ok (.invokestatic 100, 3) := by decide +kernel
theorem dX3_farthestThree_64 : decode cX3_farthestThree 64 = .ok (.istore_n 1, 1) := by decide +kernel
theorem dX3_farthestThree_65 : decode cX3_farthestThree 65 = .ok (.iinc 4 1, 3) := by decide +kernel
theorem dX3_farthestThree_68 : decode cX3_farthestThree 68 = .ok (.goto (-39), 3) := by decide +kernel
theorem dX3_farthestThree_71 : decode cX3_farthestThree 71 = .ok (.iinc 3 1, 3) := by decide +kernel
theorem dX3_farthestThree_74 : decode cX3_farthestThree 74 = .ok (.goto (-58), 3) := by decide +kernel
theorem dX3_farthestThree_77 : decode cX3_farthestThree 77 = .ok (.iinc 2 1, 3) := by decide +kernel
theorem dX3_farthestThree_80 : decode cX3_farthestThree 80 = .ok (.goto (-76), 3) := by decide +kernel
theorem dX3_farthestThree_83 : decode cX3_farthestThree 83 = .ok (.iload_n 1, 1) := by decide +kernel
theorem dX3_farthestThree_84 : decode cX3_farthestThree 84 = .ok (.ireturn, 1) := by decide +kernel
theorem dX3_cheapestPairs_0 : decode cX3_cheapestPairs 0 = .ok (.iconst 0, 1) := by decide +kernel
theorem dX3_cheapestPairs_1 : decode cX3_cheapestPairs 1 = .ok (.istore_n 1, 1) := by decide +kernel
theorem dX3_cheapestPairs_2 : decode cX3_cheapestPairs 2 = .ok (.iload_n 1, 1) := by decide +kernel
theorem dX3_cheapestPairs_3 : decode cX3_cheapestPairs 3 = .ok (.aload_n 0, 1) := by decide +kernel
theorem dX3_cheapestPairs_4 : decode cX3_cheapestPairs 4 = .ok (.getfield 15, 3) := by decide +kernel
theorem dX3_cheapestPairs_7 : decode cX3_cheapestPairs 7 = .ok (.if_icmp .ge 21, 3) := by decide +kernel
theorem dX3_cheapestPairs_10 : decode cX3_cheapestPairs 10 = .ok (.aload_n 0, 1) := by decide +kernel
theorem dX3_cheapestPairs_11 : decode cX3_cheapestPairs 11 = .ok (.getfield 32, 3) := by decide +kernel
theorem dX3_cheapestPairs_14 : decode cX3_cheapestPairs 14 = .ok (.iload_n 1, 1) := by decide +kernel
theorem dX3_cheapestPairs_15 : decode cX3_cheapestPairs 15 = .ok (.aload_n 0, 1) := by decide +kernel
theorem dX3_cheapestPairs_16 : decode cX3_cheapestPairs 16 = .ok (.iconst 0, 1) := by decide +kernel
theorem dX3_cheapestPairs_17 : decode cX3_cheapestPairs 17 = .ok (.iload_n 1, 1) := by decide +kernel
theorem dX3_cheapestPairs_18 : decode cX3_cheapestPairs 18 = .ok (.invokevirtual 103, 3) := by decide +kernel
theorem dX3_cheapestPairs_21 : decode cX3_cheapestPairs 21 = .ok (.iastore, 1) := by decide +kernel
theorem dX3_cheapestPairs_22 : decode cX3_cheapestPairs 22 = .ok (.iinc 1 1, 3) := by decide +kernel
theorem dX3_cheapestPairs_25 : decode cX3_cheapestPairs 25 = .ok (.goto (-23), 3) := by decide +kernel
theorem dX3_cheapestPairs_28 : decode cX3_cheapestPairs 28 = .ok (.iconst 0, 1) := by decide +kernel
theorem dX3_cheapestPairs_29 : decode cX3_cheapestPairs 29 = .ok (.istore_n 1, 1) := by decide +kernel
theorem dX3_cheapestPairs_30 : decode cX3_cheapestPairs 30 = .ok (.iconst 1, 1) := by decide +kernel
theorem dX3_cheapestPairs_31 : decode cX3_cheapestPairs 31 = .ok (.istore_n 2, 1) := by decide +kernel
theorem dX3_cheapestPairs_32 : decode cX3_cheapestPairs 32 = .ok (.iload_n 2, 1) := by decide +kernel
theorem dX3_cheapestPairs_33 : decode cX3_cheapestPairs 33 = .ok (.aload_n 0, 1) := by decide +kernel
theorem dX3_cheapestPairs_34 : decode cX3_cheapestPairs 34 = .ok (.getfield 15, 3) := by decide +kernel
theorem dX3_cheapestPairs_37 : decode cX3_cheapestPairs 37 = .ok (.if_icmp .ge 65, 3) := by decide +kernel
theorem dX3_cheapestPairs_40 : decode cX3_cheapestPairs 40 = .ok (.aload_n 0, 1) := by decide +kernel
theorem dX3_cheapestPairs_41 : decode cX3_cheapestPairs 41 = .ok (.invokevirtual 106, 3) := by decide +kernel
theorem dX3_cheapestPairs_44 : decode cX3_cheapestPairs 44 = .ok (.istore_n 3, 1) := by decide +kernel
theorem dX3_cheapestPairs_45 : decode cX3_cheapestPairs 45 = .ok (.iload_n 1, 1) := by decide +kernel
theorem dX3_cheapestPairs_46 : decode cX3_cheapestPairs 46 = .ok (.aload_n 0, 1) := by decide +kernel
theorem dX3_cheapestPairs_47 : decode cX3_cheapestPairs 47 = .ok (.getfield 32, 3) := by decide +kernel
theorem dX3_cheapestPairs_50 : decode cX3_cheapestPairs 50 = .ok (.iload_n 3, 1) := by decide +kernel
theorem dX3_cheapestPairs_51 : decode cX3_cheapestPairs 51 = .ok (.iaload, 1) := by decide +kernel
theorem dX3_cheapestPairs_52 : decode cX3_cheapestPairs 52 = .ok (.iadd, 1) := by decide +kernel
theorem dX3_cheapestPairs_53 : decode cX3_cheapestPairs 53 = .ok (.istore_n 1, 1) := by decide +kernel
theorem dX3_cheapestPairs_54 : decode cX3_cheapestPairs 54 = .ok (.iconst 0, 1) := by decide +kernel
theorem dX3_cheapestPairs_55 : decode cX3_cheapestPairs 55 = .ok (.istore 4, 2) := by decide +kernel
theorem dX3_cheapestPairs_57 : decode cX3_cheapestPairs 57 = .ok (.iload 4, 2) := by decide +kernel
theorem dX3_cheapestPairs_59 : decode cX3_cheapestPairs 59 = .ok (.aload_n 0, 1) := by decide +kernel
theorem dX3_cheapestPairs_60 : decode cX3_cheapestPairs 60 = .ok (.getfield 15, 3) := by decide +kernel
theorem dX3_cheapestPairs_63 : decode cX3_cheapestPairs 63 = .ok (.if_icmp .ge 33, 3) := by decide +kernel
theorem dX3_cheapestPairs_66 : decode cX3_cheapestPairs 66 = .ok (.aload_n 0, 1) := by decide +kernel
theorem dX3_cheapestPairs_67 : decode cX3_cheapestPairs 67 = .ok (.getfield 32, 3) := by decide +kernel
theorem dX3_cheapestPairs_70 : decode cX3_cheapestPairs 70 = .ok (.iload 4, 2) := by decide +kernel
theorem dX3_cheapestPairs_72 : decode cX3_cheapestPairs 72 = .ok (.aload_n 0, 1) := by decide +kernel
theorem dX3_cheapestPairs_73 : decode cX3_cheapestPairs 73 = .ok (.getfield 32, 3) := by decide +kernel
theorem dX3_cheapestPairs_76 : decode cX3_cheapestPairs 76 = .ok (.iload 4, 2) := by decide +kernel
theorem dX3_cheapestPairs_78 : decode cX3_cheapestPairs 78 = .ok (.iaload, 1) := by decide +kernel
theorem dX3_cheapestPairs_79 : decode cX3_cheapestPairs 79 = .ok (.aload_n 0, 1) := by decide +kernel
theorem dX3_cheapestPairs_80 : decode cX3_cheapestPairs 80 = .ok (.iload_n 3, 1) := by decide +kernel
theorem dX3_cheapestPairs_81 : decode cX3_cheapestPairs 81 = .ok (.iload 4, 2) := by decide +kernel
theorem dX3_cheapestPairs_83 : decode cX3_cheapestPairs 83 = .ok (.invokevirtual 103, 3) := by decide +kernel
theorem dX3_cheapestPairs_86 : decode cX3_cheapestPairs 86 = .ok (.invokestatic 76, 3) := by decide +kernel
theorem dX3_cheapestPairs_89 : decode cX3_cheapestPairs 89 = .ok (.iastore, 1) := by decide +kernel
theorem dX3_cheapestPairs_90 : decode cX3_cheapestPairs 90 = .ok (.iinc 4 1, 3) := by decide +kernel
theorem dX3_cheapestPairs_93 : decode cX3_cheapestPairs 93 = .ok (.goto (-36), 3) := by decide +kernel
theorem dX3_cheapestPairs_96 : decode cX3_cheapestPairs 96 = .ok (.iinc 2 1, 3) := by decide +kernel
theorem dX3_cheapestPairs_99 : decode cX3_cheapestPairs 99 = .ok (.goto (-67), 3) := by decide +kernel
theorem dX3_cheapestPairs_102 : decode cX3_cheapestPairs 102 = .ok (.iload_n 1, 1) := by decide +kernel
theorem dX3_cheapestPairs_103 : decode cX3_cheapestPairs 103 = .ok (.ireturn, 1) := by decide +kernel
theorem dX3_nearestOutside_0 : decode cX3_nearestOutside 0 = .ok (.iconst 0, 1) := by decide +kernel
theorem dX3_nearestOutside_1 : decode cX3_nearestOutside 1 = .ok (.istore_n 1, 1) := by decide +kernel
theorem dX3_nearestOutside_2 : decode cX3_nearestOutside 2 = .ok (.iconst 0, 1) := by decide +kernel
theorem dX3_nearestOutside_3 : decode cX3_nearestOutside 3 = .ok (.istore_n 2, 1) := by decide +kernel
theorem dX3_nearestOutside_4 : decode cX3_nearestOutside 4 = .ok (.iload_n 2, 1) := by decide +kernel
theorem dX3_nearestOutside_5 : decode cX3_nearestOutside 5 = .ok (.aload_n 0, 1) := by decide +kernel
theorem dX3_nearestOutside_6 : decode cX3_nearestOutside 6 = .ok (.getfield 15, 3) := by decide +kernel
theorem dX3_nearestOutside_9 : decode cX3_nearestOutside 9 = .ok (.if_icmp .ge 44, 3) := by decide +kernel
theorem dX3_nearestOutside_12 : decode cX3_nearestOutside 12 = .ok (.aload_n 0, 1) := by decide +kernel
theorem dX3_nearestOutside_13 : decode cX3_nearestOutside 13 = .ok (.getfield 32, 3) := by decide +kernel
theorem dX3_nearestOutside_16 : decode cX3_nearestOutside 16 = .ok (.iload_n 2, 1) := by decide +kernel
theorem dX3_nearestOutside_17 : decode cX3_nearestOutside 17 = .ok (.iaload, 1) := by decide +kernel
theorem dX3_nearestOutside_18 : decode cX3_nearestOutside 18 = .ok (.ifCond .le 29, 3) := by decide +kernel
theorem dX3_nearestOutside_21 : decode cX3_nearestOutside 21 = .ok (.aload_n 0, 1) := by decide +kernel
theorem dX3_nearestOutside_22 : decode cX3_nearestOutside 22 = .ok (.getfield 32, 3) := by decide +kernel
theorem dX3_nearestOutside_25 : decode cX3_nearestOutside 25 = .ok (.iload_n 1, 1) := by decide +kernel
theorem dX3_nearestOutside_26 : decode cX3_nearestOutside 26 = .ok (.iaload, 1) := by decide +kernel
theorem dX3_nearestOutside_27 : decode cX3_nearestOutside 27 = .ok (.ifCond .eq 18, 3) := by decide +kernel
theorem dX3_nearestOutside_30 : decode cX3_nearestOutside 30 = .ok (.aload_n 0, 1) := by decide +kernel
theorem dX3_nearestOutside_31 : decode cX3_nearestOutside 31 = .ok (.getfield 32, 3) := by decide +kernel
theorem dX3_nearestOutside_34 : decode cX3_nearestOutside 34 = .ok (.iload_n 2, 1) := by decide +kernel
theorem dX3_nearestOutside_35 : decode cX3_nearestOutside 35 = .ok (.iaload, 1) := by decide +kernel
theorem dX3_nearestOutside_36 : decode cX3_nearestOutside 36 = .ok (.aload_n 0, 1) := by decide +kernel
theorem dX3_nearestOutside_37 : decode cX3_nearestOutside 37 = .ok (.getfield 32, 3) := by decide +kernel
theorem dX3_nearestOutside_40 : decode cX3_nearestOutside 40 = .ok (.iload_n 1, 1) := by decide +kernel
theorem dX3_nearestOutside_41 : decode cX3_nearestOutside 41 = .ok (.iaload, 1) := by decide +kernel
theorem dX3_nearestOutside_42 : decode cX3_nearestOutside 42 = .ok (.if_icmp .ge 5, 3) := by decide +kernel
theorem dX3_nearestOutside_45 : decode cX3_nearestOutside 45 = .ok (.iload_n 2, 1) := by decide +kernel
theorem dX3_nearestOutside_46 : decode cX3_nearestOutside 46 = .ok (.istore_n 1, 1) := by decide +kernel
theorem dX3_nearestOutside_47 : decode cX3_nearestOutside 47 = .ok (.iinc 2 1, 3) := by decide +kernel
theorem dX3_nearestOutside_50 : decode cX3_nearestOutside 50 = .ok (.goto (-46), 3) := by decide +kernel
theorem dX3_nearestOutside_53 : decode cX3_nearestOutside 53 = .ok (.iload_n 1, 1) := by decide +kernel
theorem dX3_nearestOutside_54 : decode cX3_nearestOutside 54 = .ok (.ireturn, 1) := by decide +kernel
theorem dX4_init_0 : decode cX4_init 0 = .ok (.aload_n 0, 1) := by decide +kernel
theorem dX4_init_1 : decode cX4_init 1 = .ok (.invokespecial 3, 3) := by decide +kernel
theorem dX4_init_4 : decode cX4_init 4 = .ok (.aload_n 0, 1) := by decide +kernel
theorem dX4_init_5 : decode cX4_init 5 = .ok (.bipush 36, 2) := by decide +kernel
theorem dX4_init_7 : decode cX4_init 7 = .ok (.newarray .int, 2) := by decide +kernel
theorem dX4_init_9 : decode cX4_init 9 = .ok (.putfield 9, 3) := by decide +kernel
theorem dX4_init_12 : decode cX4_init 12 = .ok (.aload_n 0, 1) := by decide +kernel
theorem dX4_init_13 : decode cX4_init 13 = .ok (.bipush 60, 2) := by decide +kernel
theorem dX4_init_15 : decode cX4_init 15 = .ok (.newarray .int, 2) := by decide +kernel
theorem dX4_init_17 : decode cX4_init 17 = .ok (.putfield 15, 3) := by decide +kernel
theorem dX4_init_20 : decode cX4_init 20 = .ok (.return_, 1) := by decide +kernel
theorem dX4_cheapest_0 : decode cX4_cheapest 0 = .ok (.aload_n 1, 1) := by decide +kernel
theorem dX4_cheapest_1 : decode cX4_cheapest 1 = .ok (.aload_n 0, 1) := by decide +kernel
theorem dX4_cheapest_2 : decode cX4_cheapest 2 = .ok (.getfield 9, 3) := by decide +kernel
theorem dX4_cheapest_5 : decode cX4_cheapest 5 = .ok (.iconst 0, 1) := by decide +kernel
theorem dX4_cheapest_6 : decode cX4_cheapest 6 = .ok (.iload_n 2, 1) := by decide +kernel
theorem dX4_cheapest_7 : decode cX4_cheapest 7 = .ok (.invokevirtual 18, 3) := by decide +kernel
theorem dX4_cheapest_10 : decode cX4_cheapest 10 = .ok (.aload_n 0, 1) := by decide +kernel
theorem dX4_cheapest_11 : decode cX4_cheapest 11 = .ok (.getfield 9, 3) := by decide +kernel
theorem dX4_cheapest_14 : decode cX4_cheapest 14 = .ok (.iload_n 3, 1) := by decide +kernel
theorem dX4_cheapest_15 : decode cX4_cheapest 15 = .ok (.iaload, 1) := by decide +kernel
theorem dX4_cheapest_16 : decode cX4_cheapest 16 = .ok (.ireturn, 1) := by decide +kernel
theorem dX4_cheapestPair_0 : decode cX4_cheapestPair 0 = .ok (.aload_n 0, 1) := by decide +kernel
theorem dX4_cheapestPair_1 : decode cX4_cheapestPair 1 = .ok (.aload_n 1, 1) := by decide +kernel
theorem dX4_cheapestPair_2 : decode cX4_cheapestPair 2 = .ok (.iload_n 2, 1) := by decide +kernel
theorem dX4_cheapestPair_3 : decode cX4_cheapestPair 3 = .ok (.iload_n 3, 1) := by decide +kernel
theorem dX4_cheapestPair_4 : decode cX4_cheapestPair 4 = .ok (.invokevirtual 24, 3) := by decide +kernel
theorem dX4_cheapestPair_7 : decode cX4_cheapestPair 7 = .ok (.istore 4, 2) := by decide +kernel
theorem dX4_cheapestPair_9 : decode cX4_cheapestPair 9 = .ok (.aload_n 0, 1) := by decide +kernel
theorem dX4_cheapestPair_10 : decode cX4_cheapestPair 10 = .ok (.aload_n 1, 1) := by decide +kernel
theorem dX4_cheapestPair_11 : decode cX4_cheapestPair 11 = .ok (.iload_n 3, 1) := by decide +kernel
theorem dX4_cheapestPair_12 : decode cX4_cheapestPair 12 = .ok (.invokevirtual 28, 3) := by decide +kernel
theorem dX4_cheapestPair_15 : decode cX4_cheapestPair 15 = .ok (.aload_n 0, 1) := by decide +kernel
theorem dX4_cheapestPair_16 : decode cX4_cheapestPair 16 = .ok (.aload_n 1, 1) := by decide +kernel
theorem dX4_cheapestPair_17 : decode cX4_cheapestPair 17 = .ok (.iload_n 2, 1) := by decide +kernel
theorem dX4_cheapestPair_18 : decode cX4_cheapestPair 18 = .ok (.invokevirtual 32, 3) := by decide +kernel
theorem dX4_cheapestPair_21 : decode cX4_cheapestPair 21 = .ok (.iload 4, 2) := by decide +kernel
theorem dX4_cheapestPair_23 : decode cX4_cheapestPair 23 = .ok (.aload_n 0, 1) := by decide +kernel
theorem dX4_cheapestPair_24 : decode cX4_cheapestPair 24 = .ok (.getfield 9, 3) := by decide +kernel
theorem dX4_cheapestPair_27 : decode cX4_cheapestPair 27 = .ok (.iload_n 3, 1) := by decide +kernel
theorem dX4_cheapestPair_28 : decode cX4_cheapestPair 28 = .ok (.iaload, 1) := by decide +kernel
theorem dX4_cheapestPair_29 : decode cX4_cheapestPair 29 = .ok (.iadd, 1) := by decide +kernel
theorem dX4_cheapestPair_30 : decode cX4_cheapestPair 30 = .ok (.ireturn, 1) := by decide +kernel
theorem dX4_takeWayBack_0 : decode cX4_takeWayBack 0 = .ok (.iconst 0, 1) := by decide +kernel
theorem dX4_takeWayBack_1 : decode cX4_takeWayBack 1 = .ok (.istore_n 3, 1) := by decide +kernel
theorem dX4_takeWayBack_2 : decode cX4_takeWayBack 2 = .ok (.iload_n 3, 1) := by decide +kernel
theorem dX4_takeWayBack_3 : decode cX4_takeWayBack 3 = .ok (.bipush 60, 2) := by decide +kernel
theorem dX4_takeWayBack_5 : decode cX4_takeWayBack 5 = .ok (.if_icmp .ge 16, 3) := by decide +kernel
theorem dX4_takeWayBack_8 : decode cX4_takeWayBack 8 = .ok (.aload_n 0, 1) := by decide +kernel
theorem dX4_takeWayBack_9 : decode cX4_takeWayBack 9 = .ok (.getfield 15, 3) := by decide +kernel
theorem dX4_takeWayBack_12 : decode cX4_takeWayBack 12 = .ok (.iload_n 3, 1) := by decide +kernel
theorem dX4_takeWayBack_13 : decode cX4_takeWayBack 13 = .ok (.iconst 0, 1) := by decide +kernel
theorem dX4_takeWayBack_14 : decode cX4_takeWayBack 14 = .ok (.iastore, 1) := by decide +kernel
theorem dX4_takeWayBack_15 : decode cX4_takeWayBack 15 = .ok (.iinc 3 1, 3) := by decide +kernel
theorem dX4_takeWayBack_18 : decode cX4_takeWayBack 18 = .ok (.goto (-16), 3) := by decide +kernel
theorem dX4_takeWayBack_21 : decode cX4_takeWayBack 21 = .ok (.iload_n 2, 1) := by decide +kernel
theorem dX4_takeWayBack_22 : decode cX4_takeWayBack 22 = .ok (.istore_n 3, 1) := by decide +kernel
theorem dX4_takeWayBack_23 : decode cX4_takeWayBack 23 = .ok (.iconst 0, 1) := by decide +kernel
theorem dX4_takeWayBack_24 : decode cX4_takeWayBack 24 = .ok (.istore 4, 2) := by decide +kernel
theorem dX4_takeWayBack_26 : decode cX4_takeWayBack 26 = .ok (.iload 4, 2) := by decide +kernel
theorem dX4_takeWayBack_28 : decode cX4_takeWayBack 28 = .ok (.bipush 36, 2) := by decide +kernel
theorem dX4_takeWayBack_30 : decode cX4_takeWayBack 30 = .ok (.if_icmp .ge 25, 3) := by decide +kernel
theorem dX4_takeWayBack_33 : decode cX4_takeWayBack 33 = .ok (.aload_n 0, 1) := by decide +kernel
theorem dX4_takeWayBack_34 : decode cX4_takeWayBack 34 = .ok (.getfield 9, 3) := by decide +kernel
theorem dX4_takeWayBack_37 : decode cX4_takeWayBack 37 = .ok (.iload_n 3, 1) := by decide +kernel
theorem dX4_takeWayBack_38 : decode cX4_takeWayBack 38 = .ok (.iaload, 1) := by decide +kernel
theorem dX4_takeWayBack_39 : decode cX4_takeWayBack 39 = .ok (.ifCond .le 16, 3) := by decide +kernel
theorem dX4_takeWayBack_42 : decode cX4_takeWayBack 42 = .ok (.aload_n 0, 1) := by decide +kernel
theorem dX4_takeWayBack_43 : decode cX4_takeWayBack 43 = .ok (.aload_n 1, 1) := by decide +kernel
theorem dX4_takeWayBack_44 : decode cX4_takeWayBack 44 = .ok (.iload_n 3, 1) := by decide +kernel
theorem dX4_takeWayBack_45 : decode cX4_takeWayBack 45 = .ok (.invokevirtual 35, 3) := by decide +kernel
theorem dX4_takeWayBack_48 : decode cX4_takeWayBack 48 = .ok (.istore_n 3, 1) := by decide +kernel
theorem dX4_takeWayBack_49 : decode cX4_takeWayBack 49 = .ok (.iinc 4 1, 3) := by decide +kernel
theorem dX4_takeWayBack_52 : decode cX4_takeWayBack 52 = .ok (.goto (-26), 3) := by decide +kernel
theorem dX4_takeWayBack_55 : decode cX4_takeWayBack 55 = .ok (.return_, 1) := by decide +kernel
theorem dX4_stepBack_0 : decode cX4_stepBack 0 = .ok (.iconst 0, 1) := by decide +kernel
theorem dX4_stepBack_1 : decode cX4_stepBack 1 = .ok (.istore_n 3, 1) := by decide +kernel
theorem dX4_stepBack_2 : decode cX4_stepBack 2 = .ok (.iload_n 3, 1) := by decide +kernel
theorem dX4_stepBack_3 : decode cX4_stepBack 3 = .ok (.iconst 4, 1) := by decide +kernel
theorem dX4_stepBack_4 : decode cX4_stepBack 4 = .ok (.if_icmp .ge 76, 3) := by decide +kernel
theorem dX4_stepBack_7 : decode cX4_stepBack 7 = .ok (.aload_n 1, 1) := by decide +kernel
theorem dX4_stepBack_8 : decode cX4_stepBack 8 = .ok (.iload_n 2, 1) := by decide +kernel
theorem dX4_stepBack_9 : decode cX4_stepBack 9 = .ok (.iload_n 3, 1) := by decide +kernel
theorem dX4_stepBack_10 : decode cX4_stepBack 10 = .ok (.invokevirtual 39, 3) := by decide +kernel
theorem dX4_stepBack_13 : decode cX4_stepBack 13 = .ok (.istore 4, 2) := by decide +kernel
theorem dX4_stepBack_15 : decode cX4_stepBack 15 = .ok (.iload 4, 2) := by decide +kernel
theorem dX4_stepBack_17 : decode cX4_stepBack 17 = .ok (.iconst (-1), 1) := by decide +kernel
theorem dX4_stepBack_18 : decode cX4_stepBack 18 = .ok (.if_icmp .eq 56, 3) := by decide +kernel
theorem dX4_stepBack_21 : decode cX4_stepBack 21 = .ok (.aload_n 1, 1) := by decide +kernel
theorem dX4_stepBack_22 : decode cX4_stepBack 22 = .ok (.iload 4, 2) := by decide +kernel
theorem dX4_stepBack_24 : decode cX4_stepBack 24 = .ok (.iload_n 2, 1) := by decide +kernel
theorem dX4_stepBack_25 : decode cX4_stepBack 25 = .ok (.invokevirtual 43, 3) := by decide +kernel
theorem dX4_stepBack_28 : decode cX4_stepBack 28 = .ok (.istore 5, 2) := by decide +kernel
theorem dX4_stepBack_30 : decode cX4_stepBack 30 = .ok (.aload_n 0, 1) := by decide +kernel
theorem dX4_stepBack_31 : decode cX4_stepBack 31 = .ok (.getfield 9, 3) := by decide +kernel
theorem dX4_stepBack_34 : decode cX4_stepBack 34 = .ok (.iload 5, 2) := by decide +kernel
theorem dX4_stepBack_36 : decode cX4_stepBack 36 = .ok (.iaload, 1) := by decide +kernel
theorem dX4_stepBack_37 : decode cX4_stepBack 37 = .ok (.aload_n 1, 1) := by decide +kernel
theorem dX4_stepBack_38 : decode cX4_stepBack 38 = .ok (.iload 4, 2) := by decide +kernel
theorem dX4_stepBack_40 : decode cX4_stepBack 40 = .ok (.invokevirtual 46, 3) := by decide +kernel
theorem dX4_stepBack_43 : decode cX4_stepBack 43 = .ok (.iadd, 1) := by decide +kernel
theorem dX4_stepBack_44 : decode cX4_stepBack 44 = .ok (.aload_n 0, 1) := by decide +kernel
theorem dX4_stepBack_45 : decode cX4_stepBack 45 = .ok (.getfield 9, 3) := by decide +kernel
theorem dX4_stepBack_48 : decode cX4_stepBack 48 = .ok (.iload_n 2, 1) := by decide +kernel
theorem dX4_stepBack_49 : decode cX4_stepBack 49 = .ok (.iaload, 1) := by decide +kernel
theorem dX4_stepBack_50 : decode cX4_stepBack 50 = .ok (.if_icmp .ne 24, 3) := by decide +kernel
theorem dX4_stepBack_53 : decode cX4_stepBack 53 = .ok (.aload_n 0, 1) := by decide +kernel
theorem dX4_stepBack_54 : decode cX4_stepBack 54 = .ok (.getfield 15, 3) := by decide +kernel
theorem dX4_stepBack_57 : decode cX4_stepBack 57 = .ok (.iload 4, 2) := by decide +kernel
theorem dX4_stepBack_59 : decode cX4_stepBack 59 = .ok (.iload 5, 2) := by decide +kernel
theorem dX4_stepBack_61 : decode cX4_stepBack 61 = .ok (.iload_n 2, 1) := by decide +kernel
theorem dX4_stepBack_62 : decode cX4_stepBack 62 = .ok (.if_icmp .ge 7, 3) := by decide +kernel
theorem dX4_stepBack_65 : decode cX4_stepBack 65 = .ok (.iconst 1, 1) := by decide +kernel
theorem dX4_stepBack_66 : decode cX4_stepBack 66 = .ok (.goto 4, 3) := by decide +kernel
theorem dX4_stepBack_69 : decode cX4_stepBack 69 = .ok (.iconst (-1), 1) := by decide +kernel
theorem dX4_stepBack_70 : decode cX4_stepBack 70 = .ok (.iastore, 1) := by decide +kernel
theorem dX4_stepBack_71 : decode cX4_stepBack 71 = .ok (.iload 5, 2) := by decide +kernel
theorem dX4_stepBack_73 : decode cX4_stepBack 73 = .ok (.ireturn, 1) := by decide +kernel
theorem dX4_stepBack_74 : decode cX4_stepBack 74 = .ok (.iinc 3 1, 3) := by decide +kernel
theorem dX4_stepBack_77 : decode cX4_stepBack 77 = .ok (.goto (-75), 3) := by decide +kernel
theorem dX4_stepBack_80 : decode cX4_stepBack 80 = .ok (.iload_n 2, 1) := by decide +kernel
theorem dX4_stepBack_81 : decode cX4_stepBack 81 = .ok (.ireturn, 1) := by decide +kernel
theorem dX4_measureBesideTaken_0 : decode cX4_measureBesideTaken 0 = .ok (.iconst 0, 1) := by decide +kernel
theorem dX4_measureBesideTaken_1 : decode cX4_measureBesideTaken 1 = .ok (.istore_n 3, 1) := by decide +kernel
theorem dX4_measureBesideTaken_2 : decode cX4_measureBesideTaken 2 = .ok (.iload_n 3, 1) := by decide +kernel
theorem dX4_measureBesideTaken_3 : decode cX4_measureBesideTaken 3 = .ok (.bipush 36, 2) := by decide +kernel
theorem dX4_measureBesideTaken_5 : decode cX4_measureBesideTaken 5 = .ok (.if_icmp .ge 26, 3) := by decide +kernel
theorem dX4_measureBesideTaken_8 : decode cX4_measureBesideTaken 8 = .ok (.aload_n 0, 1) := by decide +kernel
theorem dX4_measureBesideTaken_9 : decode cX4_measureBesideTaken 9 = .ok (.getfield 9, 3) := by decide +kernel
theorem dX4_measureBesideTaken_12 : decode cX4_measureBesideTaken 12 = .ok (.iload_n 3, 1) := by decide +kernel
theorem dX4_measureBesideTaken_13 : decode cX4_measureBesideTaken 13 = .ok (.iload_n 3, 1) := by decide +kernel
theorem dX4_measureBesideTaken_14 : decode cX4_measureBesideTaken 14 = .ok (.iload_n 2, 1) := by decide +kernel
theorem dX4_measureBesideTaken_15 : decode cX4_measureBesideTaken 15 = .ok (.if_icmp .ne 7, 3) := by decide +kernel
theorem dX4_measureBesideTaken_18 : decode cX4_measureBesideTaken 18 = .ok (.iconst 0, 1) := by decide +kernel
theorem dX4_measureBesideTaken_19 : decode cX4_measureBesideTaken 19 = .ok (.goto 5, 3) := by decide +kernel
theorem dX4_measureBesideTaken_22 : decode cX4_measureBesideTaken 22 = .ok (.ldc 50, 2) := by decide +kernel
theorem dX4_measureBesideTaken_24 : decode cX4_measureBesideTaken 24 = .ok (.iastore, 1) := by decide +kernel
theorem dX4_measureBesideTaken_25 : decode cX4_measureBesideTaken 25 = .ok (.iinc 3 1, 3) := by decide +kernel
theorem dX4_measureBesideTaken_28 : decode cX4_measureBesideTaken 28 = .ok (.goto (-26), 3) := by decide +kernel
theorem dX4_measureBesideTaken_31 : decode cX4_measureBesideTaken 31 = .ok (.iconst 1, 1) := by decide +kernel
theorem dX4_measureBesideTaken_32 : decode cX4_measureBesideTaken 32 = .ok (.istore_n 3, 1) := by decide +kernel
theorem dX4_measureBesideTaken_33 : decode cX4_measureBesideTaken 33 = .ok (.iconst 0, 1) := by decide +kernel
theorem dX4_measureBesideTaken_34 : decode cX4_measureBesideTaken 34 = .ok (.istore 4, 2) := by decide +kernel
theorem dX4_measureBesideTaken_36 : decode cX4_measureBesideTaken 36 = .ok (.iload 4, 2) := by decide +kernel
theorem dX4_measureBesideTaken_38 : decode cX4_measureBesideTaken 38 = .ok (.bipush 36, 2) := by decide +kernel
theorem dX4_measureBesideTaken_40 : decode cX4_measureBesideTaken 40 = .ok (.if_icmp .ge 75, 3) := by decide +kernel
theorem dX4_measureBesideTaken_43 : decode cX4_measureBesideTaken 43 = .ok (.iload_n 3, 1) := by decide +kernel
theorem dX4_measureBesideTaken_44 : decode cX4_measureBesideTaken 44 = .ok (.ifCond .eq 71, 3) := by decide +kernel
theorem dX4_measureBesideTaken_47 : decode cX4_measureBesideTaken 47 = .ok (.iconst 0, 1) := by decide +kernel
theorem dX4_measureBesideTaken_48 : decode cX4_measureBesideTaken 48 = .ok (.istore_n 3, 1) := by decide +kernel
theorem dX4_measureBesideTaken_49 : decode cX4_measureBesideTaken 49 = .ok (.iconst 0, 1) := by decide +kernel
theorem dX4_measureBesideTaken_50 : decode cX4_measureBesideTaken 50 = .ok (.istore 5, 2) := by decide +kernel
theorem dX4_measureBesideTaken_52 : decode cX4_measureBesideTaken 52 = .ok (.iload 5, 2) := by decide +kernel
theorem dX4_measureBesideTaken_54 : decode cX4_measureBesideTaken 54 = .ok (.bipush 60, 2) := by decide +kernel
theorem dX4_measureBesideTaken_56 : decode cX4_measureBesideTaken 56 = .ok (.if_icmp .ge 53, 3) := by decide +kernel
theorem dX4_measureBesideTaken_59 : decode cX4_measureBesideTaken 59 = .ok (.aload_n 1, 1) := by decide +kernel
theorem dX4_measureBesideTaken_60 : decode cX4_measureBesideTaken 60 = .ok (.iload 5, 2) := by decide +kernel
theorem dX4_measureBesideTaken_62 : decode cX4_measureBesideTaken 62 = .ok (.invokevirtual 51, 3) := by decide +kernel
theorem dX4_measureBesideTaken_65 : decode cX4_measureBesideTaken 65 = .ok (.istore 6, 2) := by decide +kernel
theorem dX4_measureBesideTaken_67 : decode cX4_measureBesideTaken 67 = .ok (.aload_n 1, 1) := by decide +kernel
theorem dX4_measureBesideTaken_68 : decode cX4_measureBesideTaken 68 = .ok (.iload 5, 2) := by decide +kernel
theorem dX4_measureBesideTaken_70 : decode cX4_measureBesideTaken 70 = .ok (.invokevirtual 54, 3) := by decide +kernel
theorem dX4_measureBesideTaken_73 : decode cX4_measureBesideTaken 73 = .ok (.istore 7, 2) := by decide +kernel
theorem dX4_measureBesideTaken_75 : decode cX4_measureBesideTaken 75 = .ok (.iload_n 3, 1) := by decide +kernel
theorem dX4_measureBesideTaken_76 : decode cX4_measureBesideTaken 76 = .ok (.aload_n 0, 1) := by decide +kernel
theorem dX4_measureBesideTaken_77 : decode cX4_measureBesideTaken 77 = .ok (.aload_n 1, 1) := by decide +kernel
theorem dX4_measureBesideTaken_78 : decode cX4_measureBesideTaken 78 = .ok (.iload 5, 2) := by decide +kernel
theorem dX4_measureBesideTaken_80 : decode cX4_measureBesideTaken 80 = .ok (.iload 6, 2) := by decide +kernel
theorem dX4_measureBesideTaken_82 : decode cX4_measureBesideTaken 82 = .ok (.iload 7, 2) := by decide +kernel
theorem dX4_measureBesideTaken_84 : decode cX4_measureBesideTaken 84 = .ok (.invokevirtual 57, 3) := by decide +kernel
theorem dX4_measureBesideTaken_87 : decode cX4_measureBesideTaken 87 = .ok (.ior, 1) := by decide +kernel
theorem dX4_measureBesideTaken_88 : decode cX4_measureBesideTaken 88 = .ok (.istore_n 3, 1) := by decide +kernel
theorem dX4_measureBesideTaken_89 : decode cX4_measureBesideTaken 89 = .ok (.iload_n 3, 1) := by decide +kernel
theorem dX4_measureBesideTaken_90 : decode cX4_measureBesideTaken 90 = .ok (.aload_n 0, 1) := by decide +kernel
theorem dX4_measureBesideTaken_91 : decode cX4_measureBesideTaken 91 = .ok (.aload_n 1, 1) := by decide +kernel
theorem dX4_measureBesideTaken_92 : decode cX4_measureBesideTaken 92 = .ok (.iload 5, 2) := by decide +kernel
theorem dX4_measureBesideTaken_94 : decode cX4_measureBesideTaken 94 = .ok (.iload 7, 2) := by decide +kernel
theorem dX4_measureBesideTaken_96 : decode cX4_measureBesideTaken 96 = .ok (.iload 6, 2) := by decide +kernel
theorem dX4_measureBesideTaken_98 : decode cX4_measureBesideTaken 98 = .ok (.invokevirtual 57, 3) := by decide +kernel
theorem dX4_measureBesideTaken_101 : decode cX4_measureBesideTaken 101 = .ok (.ior, 1) := by decide +kernel
theorem dX4_measureBesideTaken_102 : decode cX4_measureBesideTaken 102 = .ok (.istore_n 3, 1) := by decide +kernel
theorem dX4_measureBesideTaken_103 : decode cX4_measureBesideTaken 103 = .ok (.iinc 5 1, 3) := by decide +kernel
theorem dX4_measureBesideTaken_106 : decode cX4_measureBesideTaken 106 = .ok (.goto (-54), 3) := by decide +kernel
theorem dX4_measureBesideTaken_109 : decode cX4_measureBesideTaken 109 = .ok (.iinc 4 1, 3) := by decide +kernel
theorem dX4_measureBesideTaken_112 : decode cX4_measureBesideTaken 112 = .ok (.goto (-76), 3) := by decide +kernel
theorem dX4_measureBesideTaken_115 : decode cX4_measureBesideTaken 115 = .ok (.return_, 1) := by decide +kernel
theorem dX4_lower_0 : decode cX4_lower 0 = .ok (.iload_n 3, 1) := by decide +kernel
theorem dX4_lower_1 : decode cX4_lower 1 = .ok (.iload 4, 2) := by decide +kernel
theorem dX4_lower_3 : decode cX4_lower 3 = .ok (.if_icmp .ge 12, 3) := by decide +kernel
theorem dX4_lower_6 : decode cX4_lower 6 = .ok (.aload_n 0, 1) := by decide +kernel
theorem dX4_lower_7 : decode cX4_lower 7 = .ok (.getfield 15, 3) := by decide +kernel
theorem dX4_lower_10 : decode cX4_lower 10 = .ok (.iload_n 2, 1) := by decide +kernel
theorem dX4_lower_11 : decode cX4_lower 11 = .ok (.iaload, 1) := by decide +kernel
theorem dX4_lower_12 : decode cX4_lower 12 = .ok (.goto 10, 3) := by decide +kernel
theorem dX4_lower_15 : decode cX4_lower 15 = .ok (.aload_n 0, 1) := by decide +kernel
theorem dX4_lower_16 : decode cX4_lower 16 = .ok (.getfield 15, 3) := by decide +kernel
theorem dX4_lower_19 : decode cX4_lower 19 = .ok (.iload_n 2, 1) := by decide +kernel
theorem dX4_lower_20 : decode cX4_lower 20 = .ok (.iaload, 1) := by decide +kernel
theorem dX4_lower_21 : decode cX4_lower 21 = .ok (.ineg, 1) := by decide +kernel
theorem dX4_lower_22 : decode cX4_lower 22 = .ok (.istore 5, 2) := by decide +kernel
theorem dX4_lower_24 : decode cX4_lower 24 = .ok (.iload 5, 2) := by decide +kernel
theorem dX4_lower_26 : decode cX4_lower 26 = .ok (.ifCond .gt 14, 3) := by decide +kernel
theorem dX4_lower_29 : decode cX4_lower 29 = .ok (.aload_n 0, 1) := by decide +kernel
theorem dX4_lower_30 : decode cX4_lower 30 = .ok (.getfield 9, 3) := by decide +kernel
theorem dX4_lower_33 : decode cX4_lower 33 = .ok (.iload_n 3, 1) := by decide +kernel
theorem dX4_lower_34 : decode cX4_lower 34 = .ok (.iaload, 1) := by decide +kernel
theorem dX4_lower_35 : decode cX4_lower 35 = .ok (.ldc 50, 2) := by decide +kernel
theorem dX4_lower_37 : decode cX4_lower 37 = .ok (.if_icmp .ne 5, 3) := by decide +kernel
theorem dX4_lower_40 : decode cX4_lower 40 = .ok (.iconst 0, 1) := by decide +kernel
theorem dX4_lower_41 : decode cX4_lower 41 = .ok (.ireturn, 1) := by decide +kernel
theorem dX4_lower_42 : decode cX4_lower 42 = .ok (.aload_n 0, 1) := by decide +kernel
theorem dX4_lower_43 : decode cX4_lower 43 = .ok (.getfield 9, 3) := by decide +kernel
theorem dX4_lower_46 : decode cX4_lower 46 = .ok (.iload_n 3, 1) := by decide +kernel
theorem dX4_lower_47 : decode cX4_lower 47 = .ok (.iaload, 1) := by decide +kernel
theorem dX4_lower_48 : decode cX4_lower 48 = .ok (.iload 5, 2) := by decide +kernel
theorem dX4_lower_50 : decode cX4_lower 50 = .ok (.ifCond .ge 12, 3) := by decide +kernel
theorem dX4_lower_53 : decode cX4_lower 53 = .ok (.aload_n 1, 1) := by decide +kernel
theorem dX4_lower_54 : decode cX4_lower 54 = .ok (.iload_n 2, 1) := by decide +kernel
theorem dX4_lower_55 : decode cX4_lower 55 = .ok (.invokevirtual 46, 3) := by decide +kernel
theorem dX4_lower_58 : decode cX4_lower 58 = .ok (.ineg, 1) := by decide +kernel
theorem dX4_lower_59 : decode cX4_lower 59 = .ok (.goto 8, 3) := by decide +kernel
theorem dX4_lower_62 : decode cX4_lower 62 = .ok (.aload_n 1, 1) := by decide +kernel
theorem dX4_lower_63 : decode cX4_lower 63 = .ok (.iload_n 2, 1) := by decide +kernel
theorem dX4_lower_64 : decode cX4_lower 64 = .ok (.invokevirtual 46, 3) := by decide +kernel
theorem dX4_lower_67 : decode cX4_lower 67 = .ok (.iadd, 1) := by decide +kernel
theorem dX4_lower_68 : decode cX4_lower 68 = .ok (.istore 6, 2) := by decide +kernel
theorem dX4_lower_70 : decode cX4_lower 70 = .ok (.iload 6, 2) := by decide +kernel
theorem dX4_lower_72 : decode cX4_lower 72 = .ok (.aload_n 0, 1) := by decide +kernel
theorem dX4_lower_73 : decode cX4_lower 73 = .ok (.getfield 9, 3) := by decide +kernel
theorem dX4_lower_76 : decode cX4_lower 76 = .ok (.iload 4, 2) := by decide +kernel
theorem dX4_lower_78 : decode cX4_lower 78 = .ok (.iaload, 1) := by decide +kernel
theorem dX4_lower_79 : decode cX4_lower 79 = .ok (.if_icmp .lt 5, 3) := by decide +kernel
theorem dX4_lower_82 : decode cX4_lower 82 = .ok (.iconst 0, 1) := by decide +kernel
theorem dX4_lower_83 : decode cX4_lower 83 = .ok (.ireturn, 1) := by decide +kernel
theorem dX4_lower_84 : decode cX4_lower 84 = .ok (.aload_n 0, 1) := by decide +kernel
theorem dX4_lower_85 : decode cX4_lower 85 = .ok (.getfield 9, 3) := by decide +kernel
theorem dX4_lower_88 : decode cX4_lower 88 = .ok (.iload 4, 2) := by decide +kernel
theorem dX4_lower_90 : decode cX4_lower 90 = .ok (.iload 6, 2) := by decide +kernel
theorem dX4_lower_92 : decode cX4_lower 92 = .ok (.iastore, 1) := by decide +kernel
theorem dX4_lower_93 : decode cX4_lower 93 = .ok (.iconst 1, 1) := by decide +kernel
theorem dX4_lower_94 : decode cX4_lower 94 = .ok (.ireturn, 1) := by decide +kernel
theorem dX5_init_0 : decode cX5_init 0 = .ok (.aload_n 0, 1) := by decide +kernel
theorem dX5_init_1 : decode cX5_init 1 = .ok (.invokespecial 1, 3) := by decide +kernel
theorem dX5_init_4 : decode cX5_init 4 = .ok (.aload_n 0, 1) := by decide +kernel
theorem dX5_init_5 : decode cX5_init 5 = .ok (.new 7, 3) := by decide +kernel
theorem dX5_init_8 : decode cX5_init 8 = .ok (.dup, 1) := by decide +kernel
theorem dX5_init_9 : decode cX5_init 9 = .ok (.invokespecial 9, 3) := by decide +kernel
theorem dX5_init_12 : decode cX5_init 12 = .ok (.putfield 10, 3) := by decide +kernel
theorem dX5_init_15 : decode cX5_init 15 = .ok (.aload_n 0, 1) := by decide +kernel
theorem dX5_init_16 : decode cX5_init 16 = .ok (.new 16, 3) := by decide +kernel
theorem dX5_init_19 : decode cX5_init 19 = .ok (.dup, 1) := by decide +kernel
theorem dX5_init_20 : decode cX5_init 20 = .ok (.invokespecial 18, 3) := by decide +kernel
theorem dX5_init_23 : decode cX5_init 23 = .ok (.putfield 19, 3) := by decide +kernel
theorem dX5_init_26 : decode cX5_init 26 = .ok (.aload_n 0, 1) := by decide +kernel
theorem dX5_init_27 : decode cX5_init 27 = .ok (.new 23, 3) := by decide +kernel
theorem dX5_init_30 : decode cX5_init 30 = .ok (.dup, 1) := by decide +kernel
theorem dX5_init_31 : decode cX5_init 31 = .ok (.invokespecial 25, 3) := by decide +kernel
theorem dX5_init_34 : decode cX5_init 34 = .ok (.putfield 26, 3) := by decide +kernel
theorem dX5_init_37 : decode cX5_init 37 = .ok (.aload_n 0, 1) := by decide +kernel
theorem dX5_init_38 : decode cX5_init 38 = .ok (.new 30, 3) := by decide +kernel
theorem dX5_init_41 : decode cX5_init 41 = .ok (.dup, 1) := by decide +kernel
theorem dX5_init_42 : decode cX5_init 42 = .ok (.invokespecial 32, 3) := by decide +kernel
theorem dX5_init_45 : decode cX5_init 45 = .ok (.putfield 33, 3) := by decide +kernel
theorem dX5_init_48 : decode cX5_init 48 = .ok (.aload_n 0, 1) := by decide +kernel
theorem dX5_init_49 : decode cX5_init 49 = .ok (.new 37, 3) := by decide +kernel
theorem dX5_init_52 : decode cX5_init 52 = .ok (.dup, 1) := by decide +kernel
theorem dX5_init_53 : decode cX5_init 53 = .ok (.invokespecial 39, 3) := by decide +kernel
theorem dX5_init_56 : decode cX5_init 56 = .ok (.putfield 40, 3) := by decide +kernel
theorem dX5_init_59 : decode cX5_init 59 = .ok (.return_, 1) := by decide +kernel
theorem dX5_cost_0 : decode cX5_cost 0 = .ok (.iload_n 1, 1) := by decide +kernel
theorem dX5_cost_1 : decode cX5_cost 1 = .ok (.ifCond .lt 8, 3) := by decide +kernel
theorem dX5_cost_4 : decode cX5_cost 4 = .ok (.iload_n 1, 1) := by decide +kernel
theorem dX5_cost_5 : decode cX5_cost 5 = .ok (.iconst 1, 1) := by decide +kernel
theorem dX5_cost_6 : decode cX5_cost 6 = .ok (.if_icmp .le 13, 3) := by decide +kernel
theorem dX5_cost_9 : decode cX5_cost 9 = .ok (.new 44, 3) := by decide +kernel
theorem dX5_cost_12 : decode cX5_cost 12 = .ok (.dup, 1) := by decide +kernel
theorem dX5_cost_13 : decode cX5_cost 13 = .ok (.ldc 46, 2) := by decide +kernel
theorem dX5_cost_15 : decode cX5_cost 15 = .ok (.invokespecial 48, 3) := by decide +kernel
theorem dX5_cost_18 : decode cX5_cost 18 = .ok (.athrow, 1) := by decide +kernel
theorem dX5_cost_19 : decode cX5_cost 19 = .ok (.iload_n 2, 1) := by decide +kernel
theorem dX5_cost_20 : decode cX5_cost 20 = .ok (.iconst 1, 1) := by decide +kernel
theorem dX5_cost_21 : decode cX5_cost 21 = .ok (.if_icmp .lt 9, 3) := by decide +kernel
theorem dX5_cost_24 : decode cX5_cost 24 = .ok (.iload_n 2, 1) := by decide +kernel
theorem dX5_cost_25 : decode cX5_cost 25 = .ok (.bipush 9, 2) := by decide +kernel
theorem dX5_cost_27 : decode cX5_cost 27 = .ok (.if_icmp .le 13, 3) := by decide +kernel
theorem dX5_cost_30 : decode cX5_cost 30 = .ok (.new 44, 3) := by decide +kernel
theorem dX5_cost_33 : decode cX5_cost 33 = .ok (.dup, 1) := by decide +kernel
theorem dX5_cost_34 : decode cX5_cost 34 = .ok (.ldc 51, 2) := by decide +kernel
theorem dX5_cost_36 : decode cX5_cost 36 = .ok (.invokespecial 48, 3) := by decide +kernel
theorem dX5_cost_39 : decode cX5_cost 39 = .ok (.athrow, 1) := by decide +kernel
theorem dX5_cost_40 : decode cX5_cost 40 = .ok (.aload_n 0, 1) := by decide +kernel
theorem dX5_cost_41 : decode cX5_cost 41 = .ok (.getfield 40, 3) := by decide +kernel
theorem dX5_cost_44 : decode cX5_cost 44 = .ok (.aload_n 0, 1) := by decide +kernel
theorem dX5_cost_45 : decode cX5_cost 45 = .ok (.getfield 10, 3) := by decide +kernel
theorem dX5_cost_48 : decode cX5_cost 48 = .ok (.invokevirtual 53, 3) := by decide +kernel
theorem dX5_cost_51 : decode cX5_cost 51 = .ok (.istore_n 3, 1) := by decide +kernel
theorem dX5_cost_52 : decode cX5_cost 52 = .ok (.aload_n 0, 1) := by decide +kernel
theorem dX5_cost_53 : decode cX5_cost 53 = .ok (.getfield 10, 3) := by decide +kernel
theorem dX5_cost_56 : decode cX5_cost 56 = .ok (.iload_n 1, 1) := by decide +kernel
theorem dX5_cost_57 : decode cX5_cost 57 = .ok (.iload_n 2, 1) := by decide +kernel
theorem dX5_cost_58 : decode cX5_cost 58 = .ok (.invokevirtual 57, 3) := by decide +kernel
theorem dX5_cost_61 : decode cX5_cost 61 = .ok (.istore 4, 2) := by decide +kernel
theorem dX5_cost_63 : decode cX5_cost 63 = .ok (.aload_n 0, 1) := by decide +kernel
theorem dX5_cost_64 : decode cX5_cost 64 = .ok (.iload_n 3, 1) := by decide +kernel
theorem dX5_cost_65 : decode cX5_cost 65 = .ok (.invokevirtual 61, 3) := by decide +kernel
theorem dX5_cost_68 : decode cX5_cost 68 = .ok (.iload 4, 2) := by decide +kernel
theorem dX5_cost_70 : decode cX5_cost 70 = .ok (.ireturn, 1) := by decide +kernel
theorem dX5_lay_0 : decode cX5_lay 0 = .ok (.iload_n 1, 1) := by decide +kernel
theorem dX5_lay_1 : decode cX5_lay 1 = .ok (.invokestatic 65, 3) := by decide +kernel
theorem dX5_lay_4 : decode cX5_lay 4 = .ok (.iload_n 2, 1) := by decide +kernel
theorem dX5_lay_5 : decode cX5_lay 5 = .ok (.ifCond .lt 9, 3) := by decide +kernel
theorem dX5_lay_8 : decode cX5_lay 8 = .ok (.iload_n 2, 1) := by decide +kernel
theorem dX5_lay_9 : decode cX5_lay 9 = .ok (.bipush 50, 2) := by decide +kernel
theorem dX5_lay_11 : decode cX5_lay 11 = .ok (.if_icmp .le 13, 3) := by decide +kernel
theorem dX5_lay_14 : decode cX5_lay 14 = .ok (.new 44, 3) := by decide +kernel
theorem dX5_lay_17 : decode cX5_lay 17 = .ok (.dup, 1) := by decide +kernel
theorem dX5_lay_18 : decode cX5_lay 18 = .ok (.ldc 68, 2) := by decide +kernel
theorem dX5_lay_20 : decode cX5_lay 20 = .ok (.invokespecial 48, 3) := by decide +kernel
theorem dX5_lay_23 : decode cX5_lay 23 = .ok (.athrow, 1) := by decide +kernel
theorem dX5_lay_24 : decode cX5_lay 24 = .ok (.aload_n 0, 1) := by decide +kernel
theorem dX5_lay_25 : decode cX5_lay 25 = .ok (.getfield 40, 3) := by decide +kernel
theorem dX5_lay_28 : decode cX5_lay 28 = .ok (.aload_n 0, 1) := by decide +kernel
theorem dX5_lay_29 : decode cX5_lay 29 = .ok (.getfield 10, 3) := by decide +kernel
theorem dX5_lay_32 : decode cX5_lay 32 = .ok (.invokevirtual 53, 3) := by decide +kernel
theorem dX5_lay_35 : decode cX5_lay 35 = .ok (.istore_n 3, 1) := by decide +kernel
theorem dX5_lay_36 : decode cX5_lay 36 = .ok (.aload_n 0, 1) := by decide +kernel
theorem dX5_lay_37 : decode cX5_lay 37 = .ok (.getfield 10, 3) := by decide +kernel
theorem dX5_lay_40 : decode cX5_lay 40 = .ok (.iload_n 1, 1) := by decide +kernel
theorem dX5_lay_41 : decode cX5_lay 41 = .ok (.iload_n 2, 1) := by decide +kernel
theorem dX5_lay_42 : decode cX5_lay 42 = .ok (.invokevirtual 70, 3) := by decide +kernel
theorem dX5_lay_45 : decode cX5_lay 45 = .ok (.istore 4, 2) := by decide +kernel
theorem dX5_lay_47 : decode cX5_lay 47 = .ok (.aload_n 0, 1) := by decide +kernel
theorem dX5_lay_48 : decode cX5_lay 48 = .ok (.iload_n 3, 1) := by decide +kernel
theorem dX5_lay_49 : decode cX5_lay 49 = .ok (.invokevirtual 61, 3) := by decide +kernel
theorem dX5_lay_52 : decode cX5_lay 52 = .ok (.iload 4, 2) := by decide +kernel
theorem dX5_lay_54 : decode cX5_lay 54 = .ok (.ireturn, 1) := by decide +kernel
theorem dX5_edge_0 : decode cX5_edge 0 = .ok (.iload_n 1, 1) := by decide +kernel
theorem dX5_edge_1 : decode cX5_edge 1 = .ok (.invokestatic 65, 3) := by decide +kernel
theorem dX5_edge_4 : decode cX5_edge 4 = .ok (.aload_n 0, 1) := by decide +kernel
theorem dX5_edge_5 : decode cX5_edge 5 = .ok (.getfield 10, 3) := by decide +kernel
theorem dX5_edge_8 : decode cX5_edge 8 = .ok (.iload_n 1, 1) := by decide +kernel
theorem dX5_edge_9 : decode cX5_edge 9 = .ok (.invokevirtual 73, 3) := by decide +kernel
theorem dX5_edge_12 : decode cX5_edge 12 = .ok (.ireturn, 1) := by decide +kernel
theorem dX5_apart_0 : decode cX5_apart 0 = .ok (.iload_n 1, 1) := by decide +kernel
theorem dX5_apart_1 : decode cX5_apart 1 = .ok (.invokestatic 77, 3) := by decide +kernel
theorem dX5_apart_4 : decode cX5_apart 4 = .ok (.iload_n 2, 1) := by decide +kernel
theorem dX5_apart_5 : decode cX5_apart 5 = .ok (.invokestatic 77, 3) := by decide +kernel
theorem dX5_apart_8 : decode cX5_apart 8 = .ok (.aload_n 0, 1) := by decide +kernel
theorem dX5_apart_9 : decode cX5_apart 9 = .ok (.getfield 19, 3) := by decide +kernel
theorem dX5_apart_12 : decode cX5_apart 12 = .ok (.aload_n 0, 1) := by decide +kernel
theorem dX5_apart_13 : decode cX5_apart 13 = .ok (.getfield 10, 3) := by decide +kernel
theorem dX5_apart_16 : decode cX5_apart 16 = .ok (.iload_n 1, 1) := by decide +kernel
theorem dX5_apart_17 : decode cX5_apart 17 = .ok (.iload_n 2, 1) := by decide +kernel
theorem dX5_apart_18 : decode cX5_apart 18 = .ok (.invokevirtual 80, 3) := by decide +kernel
theorem dX5_apart_21 : decode cX5_apart 21 = .ok (.ireturn, 1) := by decide +kernel
theorem dX5_town_0 : decode cX5_town 0 = .ok (.iload_n 1, 1) := by decide +kernel
theorem dX5_town_1 : decode cX5_town 1 = .ok (.invokestatic 77, 3) := by decide +kernel
theorem dX5_town_4 : decode cX5_town 4 = .ok (.aload_n 0, 1) := by decide +kernel
theorem dX5_town_5 : decode cX5_town 5 = .ok (.getfield 26, 3) := by decide +kernel
theorem dX5_town_8 : decode cX5_town 8 = .ok (.iload_n 1, 1) := by decide +kernel
theorem dX5_town_9 : decode cX5_town 9 = .ok (.invokevirtual 84, 3) := by decide +kernel
theorem dX5_town_12 : decode cX5_town 12 = .ok (.ifCond .ne 13, 3) := by decide +kernel
theorem dX5_town_15 : decode cX5_town 15 = .ok (.aload_n 0, 1) := by decide +kernel
theorem dX5_town_16 : decode cX5_town 16 = .ok (.getfield 26, 3) := by decide +kernel
theorem dX5_town_19 : decode cX5_town 19 = .ok (.invokevirtual 88, 3) := by decide +kernel
theorem dX5_town_22 : decode cX5_town 22 = .ok (.ifCond .eq 13, 3) := by decide +kernel
theorem dX5_town_25 : decode cX5_town 25 = .ok (.new 92, 3) := by decide +kernel
theorem dX5_town_28 : decode cX5_town 28 = .ok (.dup, 1) := by decide +kernel
theorem dX5_town_29 : decode cX5_town 29 = .ok (.ldc 94, 2) := by decide +kernel
theorem dX5_town_31 : decode cX5_town 31 = .ok (.invokespecial 96, 3) := by decide +kernel
theorem dX5_town_34 : decode cX5_town 34 = .ok (.athrow, 1) := by decide +kernel
theorem dX5_town_35 : decode cX5_town 35 = .ok (.aload_n 0, 1) := by decide +kernel
theorem dX5_town_36 : decode cX5_town 36 = .ok (.getfield 26, 3) := by decide +kernel
theorem dX5_town_39 : decode cX5_town 39 = .ok (.iload_n 1, 1) := by decide +kernel
theorem dX5_town_40 : decode cX5_town 40 = .ok (.invokevirtual 97, 3) := by decide +kernel
theorem dX5_town_43 : decode cX5_town 43 = .ok (.ireturn, 1) := by decide +kernel
theorem dX5_away_0 : decode cX5_away 0 = .ok (.aload_n 0, 1) := by decide +kernel
theorem dX5_away_1 : decode cX5_away 1 = .ok (.iload_n 1, 1) := by decide +kernel
theorem dX5_away_2 : decode cX5_away 2 = .ok (.invokevirtual 100, 3) := by decide +kernel
theorem dX5_away_5 : decode cX5_away 5 = .ok (.aload_n 0, 1) := by decide +kernel
theorem dX5_away_6 : decode cX5_away 6 = .ok (.getfield 26, 3) := by decide +kernel
theorem dX5_away_9 : decode cX5_away 9 = .ok (.iload_n 1, 1) := by decide +kernel
theorem dX5_away_10 : decode cX5_away 10 = .ok (.invokevirtual 103, 3) := by decide +kernel
theorem dX5_away_13 : decode cX5_away 13 = .ok (.ireturn, 1) := by decide +kernel
theorem dX5_townAt_0 : decode cX5_townAt 0 = .ok (.aload_n 0, 1) := by decide +kernel
theorem dX5_townAt_1 : decode cX5_townAt 1 = .ok (.iload_n 1, 1) := by decide +kernel
theorem dX5_townAt_2 : decode cX5_townAt 2 = .ok (.invokevirtual 100, 3) := by decide +kernel
theorem dX5_townAt_5 : decode cX5_townAt 5 = .ok (.aload_n 0, 1) := by decide +kernel
theorem dX5_townAt_6 : decode cX5_townAt 6 = .ok (.getfield 26, 3) := by decide +kernel
theorem dX5_townAt_9 : decode cX5_townAt 9 = .ok (.iload_n 1, 1) := by decide +kernel
theorem dX5_townAt_10 : decode cX5_townAt 10 = .ok (.invokevirtual 106, 3) := by decide +kernel
theorem dX5_townAt_13 : decode cX5_townAt 13 = .ok (.ireturn, 1) := by decide +kernel
theorem dX5_least_0 : decode cX5_least 0 = .ok (.aload_n 0, 1) := by decide +kernel
theorem dX5_least_1 : decode cX5_least 1 = .ok (.getfield 26, 3) := by decide +kernel
theorem dX5_least_4 : decode cX5_least 4 = .ok (.aload_n 0, 1) := by decide +kernel
theorem dX5_least_5 : decode cX5_least 5 = .ok (.getfield 10, 3) := by decide +kernel
theorem dX5_least_8 : decode cX5_least 8 = .ok (.invokevirtual 109, 3) := by decide +kernel
theorem dX5_least_11 : decode cX5_least 11 = .ok (.ireturn, 1) := by decide +kernel
theorem dX5_leastAnew_0 : decode cX5_leastAnew 0 = .ok (.aload_n 0, 1) := by decide +kernel
theorem dX5_leastAnew_1 : decode cX5_leastAnew 1 = .ok (.getfield 26, 3) := by decide +kernel
theorem dX5_leastAnew_4 : decode cX5_leastAnew 4 = .ok (.aload_n 0, 1) := by decide +kernel
theorem dX5_leastAnew_5 : decode cX5_leastAnew 5 = .ok (.getfield 10, 3) := by decide +kernel
theorem dX5_leastAnew_8 : decode cX5_leastAnew 8 = .ok (.invokevirtual 111, 3) := by decide +kernel
theorem dX5_leastAnew_11 : decode cX5_leastAnew 11 = .ok (.ireturn, 1) := by decide +kernel
theorem dX5_bound_0 : decode cX5_bound 0 = .ok (.aload_n 0, 1) := by decide +kernel
theorem dX5_bound_1 : decode cX5_bound 1 = .ok (.getfield 26, 3) := by decide +kernel
theorem dX5_bound_4 : decode cX5_bound 4 = .ok (.aload_n 0, 1) := by decide +kernel
theorem dX5_bound_5 : decode cX5_bound 5 = .ok (.getfield 10, 3) := by decide +kernel
theorem dX5_bound_8 : decode cX5_bound 8 = .ok (.invokevirtual 114, 3) := by decide +kernel
theorem dX5_bound_11 : decode cX5_bound 11 = .ok (.ireturn, 1) := by decide +kernel
theorem dX5_gap_0 : decode cX5_gap 0 = .ok (.aload_n 0, 1) := by decide +kernel
theorem dX5_gap_1 : decode cX5_gap 1 = .ok (.getfield 26, 3) := by decide +kernel
theorem dX5_gap_4 : decode cX5_gap 4 = .ok (.aload_n 0, 1) := by decide +kernel
theorem dX5_gap_5 : decode cX5_gap 5 = .ok (.getfield 10, 3) := by decide +kernel
theorem dX5_gap_8 : decode cX5_gap 8 = .ok (.invokevirtual 109, 3) := by decide +kernel
theorem dX5_gap_11 : decode cX5_gap 11 = .ok (.aload_n 0, 1) := by decide +kernel
theorem dX5_gap_12 : decode cX5_gap 12 = .ok (.getfield 26, 3) := by decide +kernel
theorem dX5_gap_15 : decode cX5_gap 15 = .ok (.aload_n 0, 1) := by decide +kernel
theorem dX5_gap_16 : decode cX5_gap 16 = .ok (.getfield 10, 3) := by decide +kernel
theorem dX5_gap_19 : decode cX5_gap 19 = .ok (.invokevirtual 114, 3) := by decide +kernel
theorem dX5_gap_22 : decode cX5_gap 22 = .ok (.isub, 1) := by decide +kernel
theorem dX5_gap_23 : decode cX5_gap 23 = .ok (.ireturn, 1) := by decide +kernel
theorem dX5_isUsed_0 : decode cX5_isUsed 0 = .ok (.iload_n 1, 1) := by decide +kernel
theorem dX5_isUsed_1 : decode cX5_isUsed 1 = .ok (.invokestatic 65, 3) := by decide +kernel
theorem dX5_isUsed_4 : decode cX5_isUsed 4 = .ok (.aload_n 0, 1) := by decide +kernel
theorem dX5_isUsed_5 : decode cX5_isUsed 5 = .ok (.getfield 26, 3) := by decide +kernel
theorem dX5_isUsed_8 : decode cX5_isUsed 8 = .ok (.aload_n 0, 1) := by decide +kernel
theorem dX5_isUsed_9 : decode cX5_isUsed 9 = .ok (.getfield 10, 3) := by decide +kernel
theorem dX5_isUsed_12 : decode cX5_isUsed 12 = .ok (.iload_n 1, 1) := by decide +kernel
theorem dX5_isUsed_13 : decode cX5_isUsed 13 = .ok (.invokevirtual 117, 3) := by decide +kernel
theorem dX5_isUsed_16 : decode cX5_isUsed 16 = .ok (.ireturn, 1) := by decide +kernel
theorem dX5_twoWays_0 : decode cX5_twoWays 0 = .ok (.iload_n 1, 1) := by decide +kernel
theorem dX5_twoWays_1 : decode cX5_twoWays 1 = .ok (.invokestatic 77, 3) := by decide +kernel
theorem dX5_twoWays_4 : decode cX5_twoWays 4 = .ok (.iload_n 2, 1) := by decide +kernel
theorem dX5_twoWays_5 : decode cX5_twoWays 5 = .ok (.invokestatic 77, 3) := by decide +kernel
theorem dX5_twoWays_8 : decode cX5_twoWays 8 = .ok (.iload_n 1, 1) := by decide +kernel
theorem dX5_twoWays_9 : decode cX5_twoWays 9 = .ok (.iload_n 2, 1) := by decide +kernel
theorem dX5_twoWays_10 : decode cX5_twoWays 10 = .ok (.if_icmp .ne 13, 3) := by decide +kernel
theorem dX5_twoWays_13 : decode cX5_twoWays 13 = .ok (.new 44, 3) := by decide +kernel
theorem dX5_twoWays_16 : decode cX5_twoWays 16 = .ok (.dup, 1) := by decide +kernel
theorem dX5_twoWays_17 : decode cX5_twoWays 17 = .ok (.ldc 121, 2) := by decide +kernel
theorem dX5_twoWays_19 : decode cX5_twoWays 19 = .ok (.invokespecial 48, 3) := by decide +kernel
theorem dX5_twoWays_22 : decode cX5_twoWays 22 = .ok (.athrow, 1) := by decide +kernel
theorem dX5_twoWays_23 : decode cX5_twoWays 23 = .ok (.aload_n 0, 1) := by decide +kernel
theorem dX5_twoWays_24 : decode cX5_twoWays 24 = .ok (.getfield 19, 3) := by decide +kernel
theorem dX5_twoWays_27 : decode cX5_twoWays 27 = .ok (.aload_n 0, 1) := by decide +kernel
theorem dX5_twoWays_28 : decode cX5_twoWays 28 = .ok (.getfield 10, 3) := by decide +kernel
theorem dX5_twoWays_31 : decode cX5_twoWays 31 = .ok (.iload_n 1, 1) := by decide +kernel
theorem dX5_twoWays_32 : decode cX5_twoWays 32 = .ok (.iload_n 2, 1) := by decide +kernel
theorem dX5_twoWays_33 : decode cX5_twoWays 33 = .ok (.invokevirtual 123, 3) := by decide +kernel
theorem dX5_twoWays_36 : decode cX5_twoWays 36 = .ok (.ireturn, 1) := by decide +kernel
theorem dX5_pin_0 : decode cX5_pin 0 = .ok (.iload_n 1, 1) := by decide +kernel
theorem dX5_pin_1 : decode cX5_pin 1 = .ok (.invokestatic 77, 3) := by decide +kernel
theorem dX5_pin_4 : decode cX5_pin 4 = .ok (.iload_n 2, 1) := by decide +kernel
theorem dX5_pin_5 : decode cX5_pin 5 = .ok (.ifCond .lt 8, 3) := by decide +kernel
theorem dX5_pin_8 : decode cX5_pin 8 = .ok (.iload_n 2, 1) := by decide +kernel
theorem dX5_pin_9 : decode cX5_pin 9 = .ok (.iconst 2, 1) := by decide +kernel
theorem dX5_pin_10 : decode cX5_pin 10 = .ok (.if_icmp .le 13, 3) := by decide +kernel
theorem dX5_pin_13 : decode cX5_pin 13 = .ok (.new 44, 3) := by decide +kernel
theorem dX5_pin_16 : decode cX5_pin 16 = .ok (.dup, 1) := by decide +kernel
theorem dX5_pin_17 : decode cX5_pin 17 = .ok (.ldc 126, 2) := by decide +kernel
theorem dX5_pin_19 : decode cX5_pin 19 = .ok (.invokespecial 48, 3) := by decide +kernel
theorem dX5_pin_22 : decode cX5_pin 22 = .ok (.athrow, 1) := by decide +kernel
theorem dX5_pin_23 : decode cX5_pin 23 = .ok (.aload_n 0, 1) := by decide +kernel
theorem dX5_pin_24 : decode cX5_pin 24 = .ok (.getfield 33, 3) := by decide +kernel
theorem dX5_pin_27 : decode cX5_pin 27 = .ok (.iload_n 1, 1) := by decide +kernel
theorem dX5_pin_28 : decode cX5_pin 28 = .ok (.iload_n 2, 1) := by decide +kernel
theorem dX5_pin_29 : decode cX5_pin 29 = .ok (.invokevirtual 128, 3) := by decide +kernel
theorem dX5_pin_32 : decode cX5_pin 32 = .ok (.ireturn, 1) := by decide +kernel
theorem dX5_film_0 : decode cX5_film 0 = .ok (.aload_n 0, 1) := by decide +kernel
theorem dX5_film_1 : decode cX5_film 1 = .ok (.getfield 33, 3) := by decide +kernel
theorem dX5_film_4 : decode cX5_film 4 = .ok (.aload_n 0, 1) := by decide +kernel
theorem dX5_film_5 : decode cX5_film 5 = .ok (.getfield 10, 3) := by decide +kernel
theorem dX5_film_8 : decode cX5_film 8 = .ok (.aload_n 0, 1) := by decide +kernel
theorem dX5_film_9 : decode cX5_film 9 = .ok (.getfield 33, 3) := by decide +kernel
theorem dX5_film_12 : decode cX5_film 12 = .ok (.aload_n 0, 1) := by decide +kernel
theorem dX5_film_13 : decode cX5_film 13 = .ok (.getfield 10, 3) := by decide +kernel
theorem dX5_film_16 : decode cX5_film 16 = .ok (.invokevirtual 131, 3) := by decide +kernel
theorem dX5_film_19 : decode cX5_film 19 = .ok (.invokevirtual 135, 3) := by decide +kernel
theorem dX5_film_22 : decode cX5_film 22 = .ok (.ireturn, 1) := by decide +kernel
theorem dX5_proof_0 : decode cX5_proof 0 = .ok (.aload_n 0, 1) := by decide +kernel
theorem dX5_proof_1 : decode cX5_proof 1 = .ok (.getfield 33, 3) := by decide +kernel
theorem dX5_proof_4 : decode cX5_proof 4 = .ok (.aload_n 0, 1) := by decide +kernel
theorem dX5_proof_5 : decode cX5_proof 5 = .ok (.getfield 10, 3) := by decide +kernel
theorem dX5_proof_8 : decode cX5_proof 8 = .ok (.invokevirtual 139, 3) := by decide +kernel
theorem dX5_proof_11 : decode cX5_proof 11 = .ok (.ireturn, 1) := by decide +kernel
theorem dX5_side_0 : decode cX5_side 0 = .ok (.iload_n 1, 1) := by decide +kernel
theorem dX5_side_1 : decode cX5_side 1 = .ok (.ifCond .eq 17, 3) := by decide +kernel
theorem dX5_side_4 : decode cX5_side 4 = .ok (.aload_n 0, 1) := by decide +kernel
theorem dX5_side_5 : decode cX5_side 5 = .ok (.getfield 33, 3) := by decide +kernel
theorem dX5_side_8 : decode cX5_side 8 = .ok (.aload_n 0, 1) := by decide +kernel
theorem dX5_side_9 : decode cX5_side 9 = .ok (.getfield 10, 3) := by decide +kernel
theorem dX5_side_12 : decode cX5_side 12 = .ok (.invokevirtual 142, 3) := by decide +kernel
theorem dX5_side_15 : decode cX5_side 15 = .ok (.goto 14, 3) := by decide +kernel
theorem dX5_side_18 : decode cX5_side 18 = .ok (.aload_n 0, 1) := by decide +kernel
theorem dX5_side_19 : decode cX5_side 19 = .ok (.getfield 33, 3) := by decide +kernel
theorem dX5_side_22 : decode cX5_side 22 = .ok (.aload_n 0, 1) := by decide +kernel
theorem dX5_side_23 : decode cX5_side 23 = .ok (.getfield 10, 3) := by decide +kernel
theorem dX5_side_26 : decode cX5_side 26 = .ok (.invokevirtual 131, 3) := by decide +kernel
theorem dX5_side_29 : decode cX5_side 29 = .ok (.lreturn, 1) := by decide +kernel
theorem dX5_costOf_0 : decode cX5_costOf 0 = .ok (.lload_n 1, 1) := by decide +kernel
theorem dX5_costOf_1 : decode cX5_costOf 1 = .ok (.bipush 36, 2) := by decide +kernel
theorem dX5_costOf_3 : decode cX5_costOf 3 = .ok (.lushr, 1) := by decide +kernel
theorem dX5_costOf_4 : decode cX5_costOf 4 = .ok (.lconst 0, 1) := by decide +kernel
theorem dX5_costOf_5 : decode cX5_costOf 5 = .ok (.lcmp, 1) := by decide +kernel
theorem dX5_costOf_6 : decode cX5_costOf 6 = .ok (.ifCond .eq 13, 3) := by decide +kernel
theorem dX5_costOf_9 : decode cX5_costOf 9 = .ok (.new 44, 3) := by decide +kernel
theorem dX5_costOf_12 : decode cX5_costOf 12 = .ok (.dup, 1) := by decide +kernel
theorem dX5_costOf_13 : decode cX5_costOf 13 = .ok (.ldc 145, 2) := by decide +kernel
theorem dX5_costOf_15 : decode cX5_costOf 15 = .ok (.invokespecial 48, 3) := by decide +kernel
theorem dX5_costOf_18 : decode cX5_costOf 18 = .ok (.athrow, 1) := by decide +kernel
theorem dX5_costOf_19 : decode cX5_costOf 19 = .ok (.aload_n 0, 1) := by decide +kernel
theorem dX5_costOf_20 : decode cX5_costOf 20 = .ok (.getfield 33, 3) := by decide +kernel
theorem dX5_costOf_23 : decode cX5_costOf 23 = .ok (.lload_n 1, 1) := by decide +kernel
theorem dX5_costOf_24 : decode cX5_costOf 24 = .ok (.invokevirtual 147, 3) := by decide +kernel
theorem dX5_costOf_27 : decode cX5_costOf 27 = .ok (.ifCond .eq 18, 3) := by decide +kernel
theorem dX5_costOf_30 : decode cX5_costOf 30 = .ok (.aload_n 0, 1) := by decide +kernel
theorem dX5_costOf_31 : decode cX5_costOf 31 = .ok (.getfield 33, 3) := by decide +kernel
theorem dX5_costOf_34 : decode cX5_costOf 34 = .ok (.aload_n 0, 1) := by decide +kernel
theorem dX5_costOf_35 : decode cX5_costOf 35 = .ok (.getfield 10, 3) := by decide +kernel
theorem dX5_costOf_38 : decode cX5_costOf 38 = .ok (.lload_n 1, 1) := by decide +kernel
theorem dX5_costOf_39 : decode cX5_costOf 39 = .ok (.invokevirtual 135, 3) := by decide +kernel
theorem dX5_costOf_42 : decode cX5_costOf 42 = .ok (.goto 4, 3) := by decide +kernel
theorem dX5_costOf_45 : decode cX5_costOf 45 = .ok (.iconst (-1), 1) := by decide +kernel
theorem dX5_costOf_46 : decode cX5_costOf 46 = .ok (.ireturn, 1) := by decide +kernel
theorem dX5_pull_0 : decode cX5_pull 0 = .ok (.iload_n 1, 1) := by decide +kernel
theorem dX5_pull_1 : decode cX5_pull 1 = .ok (.invokestatic 77, 3) := by decide +kernel
theorem dX5_pull_4 : decode cX5_pull 4 = .ok (.iload_n 2, 1) := by decide +kernel
theorem dX5_pull_5 : decode cX5_pull 5 = .ok (.invokestatic 151, 3) := by decide +kernel
theorem dX5_pull_8 : decode cX5_pull 8 = .ok (.aload_n 0, 1) := by decide +kernel
theorem dX5_pull_9 : decode cX5_pull 9 = .ok (.getfield 40, 3) := by decide +kernel
theorem dX5_pull_12 : decode cX5_pull 12 = .ok (.aload_n 0, 1) := by decide +kernel
theorem dX5_pull_13 : decode cX5_pull 13 = .ok (.getfield 10, 3) := by decide +kernel
theorem dX5_pull_16 : decode cX5_pull 16 = .ok (.iload_n 1, 1) := by decide +kernel
theorem dX5_pull_17 : decode cX5_pull 17 = .ok (.iload_n 2, 1) := by decide +kernel
theorem dX5_pull_18 : decode cX5_pull 18 = .ok (.invokevirtual 154, 3) := by decide +kernel
theorem dX5_pull_21 : decode cX5_pull 21 = .ok (.ireturn, 1) := by decide +kernel
theorem dX5_hold_0 : decode cX5_hold 0 = .ok (.iload_n 1, 1) := by decide +kernel
theorem dX5_hold_1 : decode cX5_hold 1 = .ok (.invokestatic 151, 3) := by decide +kernel
theorem dX5_hold_4 : decode cX5_hold 4 = .ok (.aload_n 0, 1) := by decide +kernel
theorem dX5_hold_5 : decode cX5_hold 5 = .ok (.getfield 40, 3) := by decide +kernel
theorem dX5_hold_8 : decode cX5_hold 8 = .ok (.iload_n 1, 1) := by decide +kernel
theorem dX5_hold_9 : decode cX5_hold 9 = .ok (.iload_n 2, 1) := by decide +kernel
theorem dX5_hold_10 : decode cX5_hold 10 = .ok (.invokevirtual 156, 3) := by decide +kernel
theorem dX5_hold_13 : decode cX5_hold 13 = .ok (.ireturn, 1) := by decide +kernel
theorem dX5_breathe_0 : decode cX5_breathe 0 = .ok (.iload_n 1, 1) := by decide +kernel
theorem dX5_breathe_1 : decode cX5_breathe 1 = .ok (.iconst 1, 1) := by decide +kernel
theorem dX5_breathe_2 : decode cX5_breathe 2 = .ok (.if_icmp .lt 9, 3) := by decide +kernel
theorem dX5_breathe_5 : decode cX5_breathe 5 = .ok (.iload_n 1, 1) := by decide +kernel
theorem dX5_breathe_6 : decode cX5_breathe 6 = .ok (.bipush 100, 2) := by decide +kernel
theorem dX5_breathe_8 : decode cX5_breathe 8 = .ok (.if_icmp .le 13, 3) := by decide +kernel
theorem dX5_breathe_11 : decode cX5_breathe 11 = .ok (.new 44, 3) := by decide +kernel
theorem dX5_breathe_14 : decode cX5_breathe 14 = .ok (.dup, 1) := by decide +kernel
theorem dX5_breathe_15 : decode cX5_breathe 15 = .ok (.ldc 160, 2) := by decide +kernel
theorem dX5_breathe_17 : decode cX5_breathe 17 = .ok (.invokespecial 48, 3) := by decide +kernel
theorem dX5_breathe_20 : decode cX5_breathe 20 = .ok (.athrow, 1) := by decide +kernel
theorem dX5_breathe_21 : decode cX5_breathe 21 = .ok (.aload_n 0, 1) := by decide +kernel
theorem dX5_breathe_22 : decode cX5_breathe 22 = .ok (.getfield 40, 3) := by decide +kernel
theorem dX5_breathe_25 : decode cX5_breathe 25 = .ok (.aload_n 0, 1) := by decide +kernel
theorem dX5_breathe_26 : decode cX5_breathe 26 = .ok (.getfield 10, 3) := by decide +kernel
theorem dX5_breathe_29 : decode cX5_breathe 29 = .ok (.iload_n 1, 1) := by decide +kernel
theorem dX5_breathe_30 : decode cX5_breathe 30 = .ok (.invokevirtual 162, 3) := by decide +kernel
theorem dX5_breathe_33 : decode cX5_breathe 33 = .ok (.ireturn, 1) := by decide +kernel
theorem dX5_bubbleAt_0 : decode cX5_bubbleAt 0 = .ok (.iload_n 1, 1) := by decide +kernel
theorem dX5_bubbleAt_1 : decode cX5_bubbleAt 1 = .ok (.invokestatic 77, 3) := by decide +kernel
theorem dX5_bubbleAt_4 : decode cX5_bubbleAt 4 = .ok (.aload_n 0, 1) := by decide +kernel
theorem dX5_bubbleAt_5 : decode cX5_bubbleAt 5 = .ok (.getfield 40, 3) := by decide +kernel
theorem dX5_bubbleAt_8 : decode cX5_bubbleAt 8 = .ok (.iload_n 1, 1) := by decide +kernel
theorem dX5_bubbleAt_9 : decode cX5_bubbleAt 9 = .ok (.invokevirtual 166, 3) := by decide +kernel
theorem dX5_bubbleAt_12 : decode cX5_bubbleAt 12 = .ok (.ireturn, 1) := by decide +kernel
theorem dX5_bubble_0 : decode cX5_bubble 0 = .ok (.iload_n 1, 1) := by decide +kernel
theorem dX5_bubble_1 : decode cX5_bubble 1 = .ok (.invokestatic 151, 3) := by decide +kernel
theorem dX5_bubble_4 : decode cX5_bubble 4 = .ok (.iload_n 2, 1) := by decide +kernel
theorem dX5_bubble_5 : decode cX5_bubble 5 = .ok (.tableswitch 100 0 4 #[35, 44, 57, 70, 83], 35) := by decide +kernel
theorem dX5_bubble_40 : decode cX5_bubble 40 = .ok (.aload_n 0, 1) := by decide +kernel
theorem dX5_bubble_41 : decode cX5_bubble 41 = .ok (.getfield 40, 3) := by decide +kernel
theorem dX5_bubble_44 : decode cX5_bubble 44 = .ok (.iload_n 1, 1) := by decide +kernel
theorem dX5_bubble_45 : decode cX5_bubble 45 = .ok (.invokevirtual 169, 3) := by decide +kernel
theorem dX5_bubble_48 : decode cX5_bubble 48 = .ok (.ireturn, 1) := by decide +kernel
theorem dX5_bubble_49 : decode cX5_bubble 49 = .ok (.aload_n 0, 1) := by decide +kernel
theorem dX5_bubble_50 : decode cX5_bubble 50 = .ok (.getfield 40, 3) := by decide +kernel
theorem dX5_bubble_53 : decode cX5_bubble 53 = .ok (.aload_n 0, 1) := by decide +kernel
theorem dX5_bubble_54 : decode cX5_bubble 54 = .ok (.getfield 10, 3) := by decide +kernel
theorem dX5_bubble_57 : decode cX5_bubble 57 = .ok (.iload_n 1, 1) := by decide +kernel
theorem dX5_bubble_58 : decode cX5_bubble 58 = .ok (.invokevirtual 172, 3) := by decide +kernel
theorem dX5_bubble_61 : decode cX5_bubble 61 = .ok (.ireturn, 1) := by decide +kernel
theorem dX5_bubble_62 : decode cX5_bubble 62 = .ok (.aload_n 0, 1) := by decide +kernel
theorem dX5_bubble_63 : decode cX5_bubble 63 = .ok (.getfield 40, 3) := by decide +kernel
theorem dX5_bubble_66 : decode cX5_bubble 66 = .ok (.aload_n 0, 1) := by decide +kernel
theorem dX5_bubble_67 : decode cX5_bubble 67 = .ok (.getfield 10, 3) := by decide +kernel
theorem dX5_bubble_70 : decode cX5_bubble 70 = .ok (.iload_n 1, 1) := by decide +kernel
theorem dX5_bubble_71 : decode cX5_bubble 71 = .ok (.invokevirtual 175, 3) := by decide +kernel
theorem dX5_bubble_74 : decode cX5_bubble 74 = .ok (.ireturn, 1) := by decide +kernel
theorem dX5_bubble_75 : decode cX5_bubble 75 = .ok (.aload_n 0, 1) := by decide +kernel
theorem dX5_bubble_76 : decode cX5_bubble 76 = .ok (.getfield 40, 3) := by decide +kernel
theorem dX5_bubble_79 : decode cX5_bubble 79 = .ok (.aload_n 0, 1) := by decide +kernel
theorem dX5_bubble_80 : decode cX5_bubble 80 = .ok (.getfield 10, 3) := by decide +kernel
theorem dX5_bubble_83 : decode cX5_bubble 83 = .ok (.iload_n 1, 1) := by decide +kernel
theorem dX5_bubble_84 : decode cX5_bubble 84 = .ok (.invokevirtual 178, 3) := by decide +kernel
theorem dX5_bubble_87 : decode cX5_bubble 87 = .ok (.ireturn, 1) := by decide +kernel
theorem dX5_bubble_88 : decode cX5_bubble 88 = .ok (.aload_n 0, 1) := by decide +kernel
theorem dX5_bubble_89 : decode cX5_bubble 89 = .ok (.getfield 40, 3) := by decide +kernel
theorem dX5_bubble_92 : decode cX5_bubble 92 = .ok (.iload_n 1, 1) := by decide +kernel
theorem dX5_bubble_93 : decode cX5_bubble 93 = .ok (.invokevirtual 181, 3) := by decide +kernel
theorem dX5_bubble_96 : decode cX5_bubble 96 = .ok (.ifCond .eq 7, 3) := by decide +kernel
theorem dX5_bubble_99 : decode cX5_bubble 99 = .ok (.iconst 1, 1) := by decide +kernel
theorem dX5_bubble_100 : decode cX5_bubble 100 = .ok (.goto 4, 3) := by decide +kernel
theorem dX5_bubble_103 : decode cX5_bubble 103 = .ok (.iconst 0, 1) := by decide +kernel
theorem dX5_bubble_104 : decode cX5_bubble 104 = .ok (.ireturn, 1) := by decide +kernel
theorem dX5_bubble_105 : decode cX5_bubble 105 = .ok (.new 44, 3) := by decide +kernel
theorem dX5_bubble_108 : decode cX5_bubble 108 = .ok (.dup, 1) := by decide +kernel
theorem dX5_bubble_109 : decode cX5_bubble 109 = .ok (.ldc 184, 2) := by decide +kernel
theorem dX5_bubble_111 : decode cX5_bubble 111 = .ok (.invokespecial 48, 3) := by decide +kernel
theorem dX5_bubble_114 : decode cX5_bubble 114 = .ok (.athrow, 1) := by decide +kernel
theorem dX5_wall_0 : decode cX5_wall 0 = .ok (.iload_n 1, 1) := by decide +kernel
theorem dX5_wall_1 : decode cX5_wall 1 = .ok (.invokestatic 151, 3) := by decide +kernel
theorem dX5_wall_4 : decode cX5_wall 4 = .ok (.iload_n 2, 1) := by decide +kernel
theorem dX5_wall_5 : decode cX5_wall 5 = .ok (.invokestatic 151, 3) := by decide +kernel
theorem dX5_wall_8 : decode cX5_wall 8 = .ok (.iload_n 1, 1) := by decide +kernel
theorem dX5_wall_9 : decode cX5_wall 9 = .ok (.iload_n 2, 1) := by decide +kernel
theorem dX5_wall_10 : decode cX5_wall 10 = .ok (.if_icmp .ne 7, 3) := by decide +kernel
theorem dX5_wall_13 : decode cX5_wall 13 = .ok (.iconst 0, 1) := by decide +kernel
theorem dX5_wall_14 : decode cX5_wall 14 = .ok (.goto 16, 3) := by decide +kernel
theorem dX5_wall_17 : decode cX5_wall 17 = .ok (.aload_n 0, 1) := by decide +kernel
theorem dX5_wall_18 : decode cX5_wall 18 = .ok (.getfield 40, 3) := by decide +kernel
theorem dX5_wall_21 : decode cX5_wall 21 = .ok (.aload_n 0, 1) := by decide +kernel
theorem dX5_wall_22 : decode cX5_wall 22 = .ok (.getfield 10, 3) := by decide +kernel
theorem dX5_wall_25 : decode cX5_wall 25 = .ok (.iload_n 1, 1) := by decide +kernel
theorem dX5_wall_26 : decode cX5_wall 26 = .ok (.iload_n 2, 1) := by decide +kernel
theorem dX5_wall_27 : decode cX5_wall 27 = .ok (.invokevirtual 186, 3) := by decide +kernel
theorem dX5_wall_30 : decode cX5_wall 30 = .ok (.ireturn, 1) := by decide +kernel
theorem dX5_corners_0 : decode cX5_corners 0 = .ok (.iload_n 1, 1) := by decide +kernel
theorem dX5_corners_1 : decode cX5_corners 1 = .ok (.iconst 1, 1) := by decide +kernel
theorem dX5_corners_2 : decode cX5_corners 2 = .ok (.if_icmp .lt 8, 3) := by decide +kernel
theorem dX5_corners_5 : decode cX5_corners 5 = .ok (.iload_n 1, 1) := by decide +kernel
theorem dX5_corners_6 : decode cX5_corners 6 = .ok (.iconst 4, 1) := by decide +kernel
theorem dX5_corners_7 : decode cX5_corners 7 = .ok (.if_icmp .le 13, 3) := by decide +kernel
theorem dX5_corners_10 : decode cX5_corners 10 = .ok (.new 44, 3) := by decide +kernel
theorem dX5_corners_13 : decode cX5_corners 13 = .ok (.dup, 1) := by decide +kernel
theorem dX5_corners_14 : decode cX5_corners 14 = .ok (.ldc 189, 2) := by decide +kernel
theorem dX5_corners_16 : decode cX5_corners 16 = .ok (.invokespecial 48, 3) := by decide +kernel
theorem dX5_corners_19 : decode cX5_corners 19 = .ok (.athrow, 1) := by decide +kernel
theorem dX5_corners_20 : decode cX5_corners 20 = .ok (.aload_n 0, 1) := by decide +kernel
theorem dX5_corners_21 : decode cX5_corners 21 = .ok (.getfield 40, 3) := by decide +kernel
theorem dX5_corners_24 : decode cX5_corners 24 = .ok (.iload_n 1, 1) := by decide +kernel
theorem dX5_corners_25 : decode cX5_corners 25 = .ok (.invokevirtual 191, 3) := by decide +kernel
theorem dX5_corners_28 : decode cX5_corners 28 = .ok (.ireturn, 1) := by decide +kernel
theorem dX5_rests_0 : decode cX5_rests 0 = .ok (.aload_n 0, 1) := by decide +kernel
theorem dX5_rests_1 : decode cX5_rests 1 = .ok (.getfield 40, 3) := by decide +kernel
theorem dX5_rests_4 : decode cX5_rests 4 = .ok (.aload_n 0, 1) := by decide +kernel
theorem dX5_rests_5 : decode cX5_rests 5 = .ok (.getfield 10, 3) := by decide +kernel
theorem dX5_rests_8 : decode cX5_rests 8 = .ok (.invokevirtual 194, 3) := by decide +kernel
theorem dX5_rests_11 : decode cX5_rests 11 = .ok (.ireturn, 1) := by decide +kernel
theorem dX5_energy_0 : decode cX5_energy 0 = .ok (.iload_n 1, 1) := by decide +kernel
theorem dX5_energy_1 : decode cX5_energy 1 = .ok (.tableswitch 103 0 4 #[35, 47, 59, 67, 75], 35) := by decide +kernel
theorem dX5_energy_36 : decode cX5_energy 36 = .ok (.aload_n 0, 1) := by decide +kernel
theorem dX5_energy_37 : decode cX5_energy 37 = .ok (.getfield 40, 3) := by decide +kernel
theorem dX5_energy_40 : decode cX5_energy 40 = .ok (.aload_n 0, 1) := by decide +kernel
theorem dX5_energy_41 : decode cX5_energy 41 = .ok (.getfield 10, 3) := by decide +kernel
theorem dX5_energy_44 : decode cX5_energy 44 = .ok (.invokevirtual 53, 3) := by decide +kernel
theorem dX5_energy_47 : decode cX5_energy 47 = .ok (.ireturn, 1) := by decide +kernel
theorem dX5_energy_48 : decode cX5_energy 48 = .ok (.aload_n 0, 1) := by decide +kernel
theorem dX5_energy_49 : decode cX5_energy 49 = .ok (.getfield 40, 3) := by decide +kernel
theorem dX5_energy_52 : decode cX5_energy 52 = .ok (.aload_n 0, 1) := by decide +kernel
theorem dX5_energy_53 : decode cX5_energy 53 = .ok (.getfield 10, 3) := by decide +kernel
theorem dX5_energy_56 : decode cX5_energy 56 = .ok (.invokevirtual 197, 3) := by decide +kernel
theorem dX5_energy_59 : decode cX5_energy 59 = .ok (.ireturn, 1) := by decide +kernel
theorem dX5_energy_60 : decode cX5_energy 60 = .ok (.aload_n 0, 1) := by decide +kernel
theorem dX5_energy_61 : decode cX5_energy 61 = .ok (.getfield 40, 3) := by decide +kernel
theorem dX5_energy_64 : decode cX5_energy 64 = .ok (.invokevirtual 200, 3) := by decide +kernel
theorem dX5_energy_67 : decode cX5_energy 67 = .ok (.ireturn, 1) := by decide +kernel
theorem dX5_energy_68 : decode cX5_energy 68 = .ok (.aload_n 0, 1) := by decide +kernel
theorem dX5_energy_69 : decode cX5_energy 69 = .ok (.getfield 40, 3) := by decide +kernel
theorem dX5_energy_72 : decode cX5_energy 72 = .ok (.invokevirtual 204, 3) := by decide +kernel
theorem dX5_energy_75 : decode cX5_energy 75 = .ok (.ireturn, 1) := by decide +kernel
theorem dX5_energy_76 : decode cX5_energy 76 = .ok (.aload_n 0, 1) := by decide +kernel
theorem dX5_energy_77 : decode cX5_energy 77 = .ok (.getfield 40, 3) := by decide +kernel
theorem dX5_energy_80 : decode cX5_energy 80 = .ok (.aload_n 0, 1) := by decide +kernel
theorem dX5_energy_81 : decode cX5_energy 81 = .ok (.getfield 10, 3) := by decide +kernel
theorem dX5_energy_84 : decode cX5_energy 84 = .ok (.invokevirtual 53, 3) := by decide +kernel
theorem dX5_energy_87 : decode cX5_energy 87 = .ok (.aload_n 0, 1) := by decide +kernel
theorem dX5_energy_88 : decode cX5_energy 88 = .ok (.getfield 40, 3) := by decide +kernel
theorem dX5_energy_91 : decode cX5_energy 91 = .ok (.invokevirtual 204, 3) := by decide +kernel
theorem dX5_energy_94 : decode cX5_energy 94 = .ok (.iadd, 1) := by decide +kernel
theorem dX5_energy_95 : decode cX5_energy 95 = .ok (.aload_n 0, 1) := by decide +kernel
theorem dX5_energy_96 : decode cX5_energy 96 = .ok (.getfield 40, 3) := by decide +kernel
theorem dX5_energy_99 : decode cX5_energy 99 = .ok (.invokevirtual 200, 3) := by decide +kernel
theorem dX5_energy_102 : decode cX5_energy 102 = .ok (.isub, 1) := by decide +kernel
theorem dX5_energy_103 : decode cX5_energy 103 = .ok (.ireturn, 1) := by decide +kernel
theorem dX5_energy_104 : decode cX5_energy 104 = .ok (.new 44, 3) := by decide +kernel
theorem dX5_energy_107 : decode cX5_energy 107 = .ok (.dup, 1) := by decide +kernel
theorem dX5_energy_108 : decode cX5_energy 108 = .ok (.ldc 207, 2) := by decide +kernel
theorem dX5_energy_110 : decode cX5_energy 110 = .ok (.invokespecial 48, 3) := by decide +kernel
theorem dX5_energy_113 : decode cX5_energy 113 = .ok (.athrow, 1) := by decide +kernel
theorem dX5_takeInNewPrices_0 : decode cX5_takeInNewPrices 0 = .ok (.aload_n 0, 1) := by decide +kernel
theorem dX5_takeInNewPrices_1 : decode cX5_takeInNewPrices 1 = .ok (.getfield 26, 3) := by decide +kernel
theorem dX5_takeInNewPrices_4 : decode cX5_takeInNewPrices 4 = .ok (.invokevirtual 209, 3) := by decide +kernel
theorem dX5_takeInNewPrices_7 : decode cX5_takeInNewPrices 7 = .ok (.aload_n 0, 1) := by decide +kernel
theorem dX5_takeInNewPrices_8 : decode cX5_takeInNewPrices 8 = .ok (.getfield 40, 3) := by decide +kernel
theorem dX5_takeInNewPrices_11 : decode cX5_takeInNewPrices 11 = .ok (.aload_n 0, 1) := by decide +kernel
theorem dX5_takeInNewPrices_12 : decode cX5_takeInNewPrices 12 = .ok (.getfield 40, 3) := by decide +kernel
theorem dX5_takeInNewPrices_15 : decode cX5_takeInNewPrices 15 = .ok (.aload_n 0, 1) := by decide +kernel
theorem dX5_takeInNewPrices_16 : decode cX5_takeInNewPrices 16 = .ok (.getfield 10, 3) := by decide +kernel
theorem dX5_takeInNewPrices_19 : decode cX5_takeInNewPrices 19 = .ok (.invokevirtual 53, 3) := by decide +kernel
theorem dX5_takeInNewPrices_22 : decode cX5_takeInNewPrices 22 = .ok (.iload_n 1, 1) := by decide +kernel
theorem dX5_takeInNewPrices_23 : decode cX5_takeInNewPrices 23 = .ok (.isub, 1) := by decide +kernel
theorem dX5_takeInNewPrices_24 : decode cX5_takeInNewPrices 24 = .ok (.invokevirtual 212, 3) := by decide +kernel
theorem dX5_takeInNewPrices_27 : decode cX5_takeInNewPrices 27 = .ok (.return_, 1) := by decide +kernel
theorem dX5_checkNode_0 : decode cX5_checkNode 0 = .ok (.iload_n 0, 1) := by decide +kernel
theorem dX5_checkNode_1 : decode cX5_checkNode 1 = .ok (.ifCond .lt 9, 3) := by decide +kernel
theorem dX5_checkNode_4 : decode cX5_checkNode 4 = .ok (.iload_n 0, 1) := by decide +kernel
theorem dX5_checkNode_5 : decode cX5_checkNode 5 = .ok (.bipush 36, 2) := by decide +kernel
theorem dX5_checkNode_7 : decode cX5_checkNode 7 = .ok (.if_icmp .lt 13, 3) := by decide +kernel
theorem dX5_checkNode_10 : decode cX5_checkNode 10 = .ok (.new 215, 3) := by decide +kernel
theorem dX5_checkNode_13 : decode cX5_checkNode 13 = .ok (.dup, 1) := by decide +kernel
theorem dX5_checkNode_14 : decode cX5_checkNode 14 = .ok (.ldc 217, 2) := by decide +kernel
theorem dX5_checkNode_16 : decode cX5_checkNode 16 = .ok (.invokespecial 219, 3) := by decide +kernel
theorem dX5_checkNode_19 : decode cX5_checkNode 19 = .ok (.athrow, 1) := by decide +kernel
theorem dX5_checkNode_20 : decode cX5_checkNode 20 = .ok (.return_, 1) := by decide +kernel
theorem dX5_checkEdge_0 : decode cX5_checkEdge 0 = .ok (.iload_n 0, 1) := by decide +kernel
theorem dX5_checkEdge_1 : decode cX5_checkEdge 1 = .ok (.ifCond .lt 9, 3) := by decide +kernel
theorem dX5_checkEdge_4 : decode cX5_checkEdge 4 = .ok (.iload_n 0, 1) := by decide +kernel
theorem dX5_checkEdge_5 : decode cX5_checkEdge 5 = .ok (.bipush 60, 2) := by decide +kernel
theorem dX5_checkEdge_7 : decode cX5_checkEdge 7 = .ok (.if_icmp .lt 13, 3) := by decide +kernel
theorem dX5_checkEdge_10 : decode cX5_checkEdge 10 = .ok (.new 215, 3) := by decide +kernel
theorem dX5_checkEdge_13 : decode cX5_checkEdge 13 = .ok (.dup, 1) := by decide +kernel
theorem dX5_checkEdge_14 : decode cX5_checkEdge 14 = .ok (.ldc 220, 2) := by decide +kernel
theorem dX5_checkEdge_16 : decode cX5_checkEdge 16 = .ok (.invokespecial 219, 3) := by decide +kernel
theorem dX5_checkEdge_19 : decode cX5_checkEdge 19 = .ok (.athrow, 1) := by decide +kernel
theorem dX5_checkEdge_20 : decode cX5_checkEdge 20 = .ok (.return_, 1) := by decide +kernel
theorem dX5_checkTown_0 : decode cX5_checkTown 0 = .ok (.iload_n 1, 1) := by decide +kernel
theorem dX5_checkTown_1 : decode cX5_checkTown 1 = .ok (.ifCond .lt 14, 3) := by decide +kernel
theorem dX5_checkTown_4 : decode cX5_checkTown 4 = .ok (.iload_n 1, 1) := by decide +kernel
theorem dX5_checkTown_5 : decode cX5_checkTown 5 = .ok (.aload_n 0, 1) := by decide +kernel
theorem dX5_checkTown_6 : decode cX5_checkTown 6 = .ok (.getfield 26, 3) := by decide +kernel
theorem dX5_checkTown_9 : decode cX5_checkTown 9 = .ok (.invokevirtual 222, 3) := by decide +kernel
theorem dX5_checkTown_12 : decode cX5_checkTown 12 = .ok (.if_icmp .lt 13, 3) := by decide +kernel
theorem dX5_checkTown_15 : decode cX5_checkTown 15 = .ok (.new 215, 3) := by decide +kernel
theorem dX5_checkTown_18 : decode cX5_checkTown 18 = .ok (.dup, 1) := by decide +kernel
theorem dX5_checkTown_19 : decode cX5_checkTown 19 = .ok (.ldc 224, 2) := by decide +kernel
theorem dX5_checkTown_21 : decode cX5_checkTown 21 = .ok (.invokespecial 219, 3) := by decide +kernel
theorem dX5_checkTown_24 : decode cX5_checkTown 24 = .ok (.athrow, 1) := by decide +kernel
theorem dX5_checkTown_25 : decode cX5_checkTown 25 = .ok (.return_, 1) := by decide +kernel
theorem dX5_checkBubble_0 : decode cX5_checkBubble 0 = .ok (.iload_n 0, 1) := by decide +kernel
theorem dX5_checkBubble_1 : decode cX5_checkBubble 1 = .ok (.ifCond .lt 9, 3) := by decide +kernel
theorem dX5_checkBubble_4 : decode cX5_checkBubble 4 = .ok (.iload_n 0, 1) := by decide +kernel
theorem dX5_checkBubble_5 : decode cX5_checkBubble 5 = .ok (.bipush 8, 2) := by decide +kernel
theorem dX5_checkBubble_7 : decode cX5_checkBubble 7 = .ok (.if_icmp .lt 13, 3) := by decide +kernel
theorem dX5_checkBubble_10 : decode cX5_checkBubble 10 = .ok (.new 215, 3) := by decide +kernel
theorem dX5_checkBubble_13 : decode cX5_checkBubble 13 = .ok (.dup, 1) := by decide +kernel
theorem dX5_checkBubble_14 : decode cX5_checkBubble 14 = .ok (.ldc 226, 2) := by decide +kernel
theorem dX5_checkBubble_16 : decode cX5_checkBubble 16 = .ok (.invokespecial 219, 3) := by decide +kernel
theorem dX5_checkBubble_19 : decode cX5_checkBubble 19 = .ok (.athrow, 1) := by decide +kernel
theorem dX5_checkBubble_20 : decode cX5_checkBubble 20 = .ok (.return_, 1) := by decide +kernel
theorem dJ6_bitCount_0f7a4_0 : decode cJ6_bitCount_0f7a4 0 = .ok (.iload_n 0, 1) := by decide +kernel
theorem dJ6_bitCount_0f7a4_1 : decode cJ6_bitCount_0f7a4 1 = .ok (.iload_n 0, 1) := by decide +kernel
theorem dJ6_bitCount_0f7a4_2 : decode cJ6_bitCount_0f7a4 2 = .ok (.iconst 1, 1) := by decide +kernel
theorem dJ6_bitCount_0f7a4_3 : decode cJ6_bitCount_0f7a4 3 = .ok (.iushr, 1) := by decide +kernel
theorem dJ6_bitCount_0f7a4_4 : decode cJ6_bitCount_0f7a4 4 = .ok (.ldc_w 265, 3) := by decide +kernel
theorem dJ6_bitCount_0f7a4_7 : decode cJ6_bitCount_0f7a4 7 = .ok (.iand, 1) := by decide +kernel
theorem dJ6_bitCount_0f7a4_8 : decode cJ6_bitCount_0f7a4 8 = .ok (.isub, 1) := by decide +kernel
theorem dJ6_bitCount_0f7a4_9 : decode cJ6_bitCount_0f7a4 9 = .ok (.istore_n 0, 1) := by decide +kernel
theorem dJ6_bitCount_0f7a4_10 : decode cJ6_bitCount_0f7a4 10 = .ok (.iload_n 0, 1) := by decide +kernel
theorem dJ6_bitCount_0f7a4_11 : decode cJ6_bitCount_0f7a4 11 = .ok (.ldc_w 266, 3) := by decide +kernel
theorem dJ6_bitCount_0f7a4_14 : decode cJ6_bitCount_0f7a4 14 = .ok (.iand, 1) := by decide +kernel
theorem dJ6_bitCount_0f7a4_15 : decode cJ6_bitCount_0f7a4 15 = .ok (.iload_n 0, 1) := by decide +kernel
theorem dJ6_bitCount_0f7a4_16 : decode cJ6_bitCount_0f7a4 16 = .ok (.iconst 2, 1) := by decide +kernel
theorem dJ6_bitCount_0f7a4_17 : decode cJ6_bitCount_0f7a4 17 = .ok (.iushr, 1) := by decide +kernel
theorem dJ6_bitCount_0f7a4_18 : decode cJ6_bitCount_0f7a4 18 = .ok (.ldc_w 266, 3) := by decide +kernel
theorem dJ6_bitCount_0f7a4_21 : decode cJ6_bitCount_0f7a4 21 = .ok (.iand, 1) := by decide +kernel
theorem dJ6_bitCount_0f7a4_22 : decode cJ6_bitCount_0f7a4 22 = .ok (.iadd, 1) := by decide +kernel
theorem dJ6_bitCount_0f7a4_23 : decode cJ6_bitCount_0f7a4 23 = .ok (.istore_n 0, 1) := by decide +kernel
theorem dJ6_bitCount_0f7a4_24 : decode cJ6_bitCount_0f7a4 24 = .ok (.iload_n 0, 1) := by decide +kernel
theorem dJ6_bitCount_0f7a4_25 : decode cJ6_bitCount_0f7a4 25 = .ok (.iload_n 0, 1) := by decide +kernel
theorem dJ6_bitCount_0f7a4_26 : decode cJ6_bitCount_0f7a4 26 = .ok (.iconst 4, 1) := by decide +kernel
theorem dJ6_bitCount_0f7a4_27 : decode cJ6_bitCount_0f7a4 27 = .ok (.iushr, 1) := by decide +kernel
theorem dJ6_bitCount_0f7a4_28 : decode cJ6_bitCount_0f7a4 28 = .ok (.iadd, 1) := by decide +kernel
theorem dJ6_bitCount_0f7a4_29 : decode cJ6_bitCount_0f7a4 29 = .ok (.ldc_w 267, 3) := by decide +kernel
theorem dJ6_bitCount_0f7a4_32 : decode cJ6_bitCount_0f7a4 32 = .ok (.iand, 1) := by decide +kernel
theorem dJ6_bitCount_0f7a4_33 : decode cJ6_bitCount_0f7a4 33 = .ok (.istore_n 0, 1) := by decide +kernel
theorem dJ6_bitCount_0f7a4_34 : decode cJ6_bitCount_0f7a4 34 = .ok (.iload_n 0, 1) := by decide +kernel
theorem dJ6_bitCount_0f7a4_35 : decode cJ6_bitCount_0f7a4 35 = .ok (.iload_n 0, 1) := by decide +kernel
theorem dJ6_bitCount_0f7a4_36 : decode cJ6_bitCount_0f7a4 36 = .ok (.bipush 8, 2) := by decide +kernel
theorem dJ6_bitCount_0f7a4_38 : decode cJ6_bitCount_0f7a4 38 = .ok (.iushr, 1) := by decide +kernel
theorem dJ6_bitCount_0f7a4_39 : decode cJ6_bitCount_0f7a4 39 = .ok (.iadd, 1) := by decide +kernel
theorem dJ6_bitCount_0f7a4_40 : decode cJ6_bitCount_0f7a4 40 = .ok (.istore_n 0, 1) := by decide +kernel
theorem dJ6_bitCount_0f7a4_41 : decode cJ6_bitCount_0f7a4 41 = .ok (.iload_n 0, 1) := by decide +kernel
theorem dJ6_bitCount_0f7a4_42 : decode cJ6_bitCount_0f7a4 42 = .ok (.iload_n 0, 1) := by decide +kernel
theorem dJ6_bitCount_0f7a4_43 : decode cJ6_bitCount_0f7a4 43 = .ok (.bipush 16, 2) := by decide +kernel
theorem dJ6_bitCount_0f7a4_45 : decode cJ6_bitCount_0f7a4 45 = .ok (.iushr, 1) := by decide +kernel
theorem dJ6_bitCount_0f7a4_46 : decode cJ6_bitCount_0f7a4 46 = .ok (.iadd, 1) := by decide +kernel
theorem dJ6_bitCount_0f7a4_47 : decode cJ6_bitCount_0f7a4 47 = .ok (.istore_n 0, 1) := by decide +kernel
theorem dJ6_bitCount_0f7a4_48 : decode cJ6_bitCount_0f7a4 48 = .ok (.iload_n 0, 1) := by decide +kernel
theorem dJ6_bitCount_0f7a4_49 : decode cJ6_bitCount_0f7a4 49 = .ok (.bipush 63, 2) := by decide +kernel
theorem dJ6_bitCount_0f7a4_51 : decode cJ6_bitCount_0f7a4 51 = .ok (.iand, 1) := by decide +kernel
theorem dJ6_bitCount_0f7a4_52 : decode cJ6_bitCount_0f7a4 52 = .ok (.ireturn, 1) := by decide +kernel
theorem dJ9_max_7cf53_0 : decode cJ9_max_7cf53 0 = .ok (.iload_n 0, 1) := by decide +kernel
theorem dJ9_max_7cf53_1 : decode cJ9_max_7cf53 1 = .ok (.iload_n 1, 1) := by decide +kernel
theorem dJ9_max_7cf53_2 : decode cJ9_max_7cf53 2 = .ok (.if_icmp .lt 7, 3) := by decide +kernel
theorem dJ9_max_7cf53_5 : decode cJ9_max_7cf53 5 = .ok (.iload_n 0, 1) := by decide +kernel
theorem dJ9_max_7cf53_6 : decode cJ9_max_7cf53 6 = .ok (.goto 4, 3) := by decide +kernel
theorem dJ9_max_7cf53_9 : decode cJ9_max_7cf53 9 = .ok (.iload_n 1, 1) := by decide +kernel
theorem dJ9_max_7cf53_10 : decode cJ9_max_7cf53 10 = .ok (.ireturn, 1) := by decide +kernel
theorem dJ9_min_7cf53_0 : decode cJ9_min_7cf53 0 = .ok (.iload_n 0, 1) := by decide +kernel
theorem dJ9_min_7cf53_1 : decode cJ9_min_7cf53 1 = .ok (.iload_n 1, 1) := by decide +kernel
theorem dJ9_min_7cf53_2 : decode cJ9_min_7cf53 2 = .ok (.if_icmp .gt 7, 3) := by decide +kernel
theorem dJ9_min_7cf53_5 : decode cJ9_min_7cf53 5 = .ok (.iload_n 0, 1) := by decide +kernel
theorem dJ9_min_7cf53_6 : decode cJ9_min_7cf53 6 = .ok (.goto 4, 3) := by decide +kernel
theorem dJ9_min_7cf53_9 : decode cJ9_min_7cf53 9 = .ok (.iload_n 1, 1) := by decide +kernel
theorem dJ9_min_7cf53_10 : decode cJ9_min_7cf53 10 = .ok (.ireturn, 1) := by decide +kernel
