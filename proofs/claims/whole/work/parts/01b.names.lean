theorem dX0_init_0 : decode cX0_init 0 = .ok (.aload_n 0, 1) := by decide +kernel
theorem dX0_init_1 : decode cX0_init 1 = .ok (.invokespecial 3, 3) := by decide +kernel
theorem dX0_init_4 : decode cX0_init 4 = .ok (.aload_n 0, 1) := by decide +kernel
theorem dX0_init_5 : decode cX0_init 5 = .ok (.bipush 8, 2) := by decide +kernel
theorem dX0_init_7 : decode cX0_init 7 = .ok (.newarray .int, 2) := by decide +kernel
theorem dX0_init_9 : decode cX0_init 9 = .ok (.putfield 9, 3) := by decide +kernel
theorem dX0_init_12 : decode cX0_init 12 = .ok (.aload_n 0, 1) := by decide +kernel
theorem dX0_init_13 : decode cX0_init 13 = .ok (.bipush 8, 2) := by decide +kernel
theorem dX0_init_15 : decode cX0_init 15 = .ok (.newarray .int, 2) := by decide +kernel
theorem dX0_init_17 : decode cX0_init 17 = .ok (.putfield 15, 3) := by decide +kernel
theorem dX0_init_20 : decode cX0_init 20 = .ok (.aload_n 0, 1) := by decide +kernel
theorem dX0_init_21 : decode cX0_init 21 = .ok (.bipush 8, 2) := by decide +kernel
theorem dX0_init_23 : decode cX0_init 23 = .ok (.newarray .int, 2) := by decide +kernel
theorem dX0_init_25 : decode cX0_init 25 = .ok (.putfield 18, 3) := by decide +kernel
theorem dX0_init_28 : decode cX0_init 28 = .ok (.aload_n 0, 1) := by decide +kernel
theorem dX0_init_29 : decode cX0_init 29 = .ok (.bipush 8, 2) := by decide +kernel
theorem dX0_init_31 : decode cX0_init 31 = .ok (.newarray .int, 2) := by decide +kernel
theorem dX0_init_33 : decode cX0_init 33 = .ok (.putfield 21, 3) := by decide +kernel
theorem dX0_init_36 : decode cX0_init 36 = .ok (.aload_n 0, 1) := by decide +kernel
theorem dX0_init_37 : decode cX0_init 37 = .ok (.bipush 8, 2) := by decide +kernel
theorem dX0_init_39 : decode cX0_init 39 = .ok (.newarray .int, 2) := by decide +kernel
theorem dX0_init_41 : decode cX0_init 41 = .ok (.putfield 24, 3) := by decide +kernel
theorem dX0_init_44 : decode cX0_init 44 = .ok (.aload_n 0, 1) := by decide +kernel
theorem dX0_init_45 : decode cX0_init 45 = .ok (.bipush 7, 2) := by decide +kernel
theorem dX0_init_47 : decode cX0_init 47 = .ok (.newarray .int, 2) := by decide +kernel
theorem dX0_init_49 : decode cX0_init 49 = .ok (.putfield 27, 3) := by decide +kernel
theorem dX0_init_52 : decode cX0_init 52 = .ok (.aload_n 0, 1) := by decide +kernel
theorem dX0_init_53 : decode cX0_init 53 = .ok (.bipush 7, 2) := by decide +kernel
theorem dX0_init_55 : decode cX0_init 55 = .ok (.newarray .int, 2) := by decide +kernel
theorem dX0_init_57 : decode cX0_init 57 = .ok (.putfield 30, 3) := by decide +kernel
theorem dX0_init_60 : decode cX0_init 60 = .ok (.aload_n 0, 1) := by decide +kernel
theorem dX0_init_61 : decode cX0_init 61 = .ok (.iconst 5, 1) := by decide +kernel
theorem dX0_init_62 : decode cX0_init 62 = .ok (.newarray .int, 2) := by decide +kernel
theorem dX0_init_64 : decode cX0_init 64 = .ok (.putfield 33, 3) := by decide +kernel
theorem dX0_init_67 : decode cX0_init 67 = .ok (.aload_n 0, 1) := by decide +kernel
theorem dX0_init_68 : decode cX0_init 68 = .ok (.iconst 4, 1) := by decide +kernel
theorem dX0_init_69 : decode cX0_init 69 = .ok (.newarray .int, 2) := by decide +kernel
theorem dX0_init_71 : decode cX0_init 71 = .ok (.putfield 36, 3) := by decide +kernel
theorem dX0_init_74 : decode cX0_init 74 = .ok (.return_, 1) := by decide +kernel
theorem dX0_hasTask_0 : decode cX0_hasTask 0 = .ok (.iload_n 1, 1) := by decide +kernel
theorem dX0_hasTask_1 : decode cX0_hasTask 1 = .ok (.ifCond .lt 15, 3) := by decide +kernel
theorem dX0_hasTask_4 : decode cX0_hasTask 4 = .ok (.iload_n 1, 1) := by decide +kernel
theorem dX0_hasTask_5 : decode cX0_hasTask 5 = .ok (.aload_n 0, 1) := by decide +kernel
theorem dX0_hasTask_6 : decode cX0_hasTask 6 = .ok (.getfield 39, 3) := by decide +kernel
theorem dX0_hasTask_9 : decode cX0_hasTask 9 = .ok (.if_icmp .ge 7, 3) := by decide +kernel
theorem dX0_hasTask_12 : decode cX0_hasTask 12 = .ok (.iconst 1, 1) := by decide +kernel
theorem dX0_hasTask_13 : decode cX0_hasTask 13 = .ok (.goto 4, 3) := by decide +kernel
theorem dX0_hasTask_16 : decode cX0_hasTask 16 = .ok (.iconst 0, 1) := by decide +kernel
theorem dX0_hasTask_17 : decode cX0_hasTask 17 = .ok (.ireturn, 1) := by decide +kernel
theorem dX0_hasHelper_0 : decode cX0_hasHelper 0 = .ok (.iload_n 1, 1) := by decide +kernel
theorem dX0_hasHelper_1 : decode cX0_hasHelper 1 = .ok (.ifCond .lt 15, 3) := by decide +kernel
theorem dX0_hasHelper_4 : decode cX0_hasHelper 4 = .ok (.iload_n 1, 1) := by decide +kernel
theorem dX0_hasHelper_5 : decode cX0_hasHelper 5 = .ok (.aload_n 0, 1) := by decide +kernel
theorem dX0_hasHelper_6 : decode cX0_hasHelper 6 = .ok (.getfield 43, 3) := by decide +kernel
theorem dX0_hasHelper_9 : decode cX0_hasHelper 9 = .ok (.if_icmp .ge 7, 3) := by decide +kernel
theorem dX0_hasHelper_12 : decode cX0_hasHelper 12 = .ok (.iconst 1, 1) := by decide +kernel
theorem dX0_hasHelper_13 : decode cX0_hasHelper 13 = .ok (.goto 4, 3) := by decide +kernel
theorem dX0_hasHelper_16 : decode cX0_hasHelper 16 = .ok (.iconst 0, 1) := by decide +kernel
theorem dX0_hasHelper_17 : decode cX0_hasHelper 17 = .ok (.ireturn, 1) := by decide +kernel
theorem dX0_kindOf_0 : decode cX0_kindOf 0 = .ok (.iload_n 1, 1) := by decide +kernel
theorem dX0_kindOf_1 : decode cX0_kindOf 1 = .ok (.ifCond .lt 21, 3) := by decide +kernel
theorem dX0_kindOf_4 : decode cX0_kindOf 4 = .ok (.iload_n 1, 1) := by decide +kernel
theorem dX0_kindOf_5 : decode cX0_kindOf 5 = .ok (.aload_n 0, 1) := by decide +kernel
theorem dX0_kindOf_6 : decode cX0_kindOf 6 = .ok (.getfield 9, 3) := by decide +kernel
theorem dX0_kindOf_9 : decode cX0_kindOf 9 = .ok (.arraylength, 1) := by decide +kernel
theorem dX0_kindOf_10 : decode cX0_kindOf 10 = .ok (.if_icmp .ge 12, 3) := by decide +kernel
theorem dX0_kindOf_13 : decode cX0_kindOf 13 = .ok (.aload_n 0, 1) := by decide +kernel
theorem dX0_kindOf_14 : decode cX0_kindOf 14 = .ok (.getfield 9, 3) := by decide +kernel
theorem dX0_kindOf_17 : decode cX0_kindOf 17 = .ok (.iload_n 1, 1) := by decide +kernel
theorem dX0_kindOf_18 : decode cX0_kindOf 18 = .ok (.iaload, 1) := by decide +kernel
theorem dX0_kindOf_19 : decode cX0_kindOf 19 = .ok (.goto 4, 3) := by decide +kernel
theorem dX0_kindOf_22 : decode cX0_kindOf 22 = .ok (.iconst 0, 1) := by decide +kernel
theorem dX0_kindOf_23 : decode cX0_kindOf 23 = .ok (.ireturn, 1) := by decide +kernel
theorem dX0_daysOf_0 : decode cX0_daysOf 0 = .ok (.iload_n 1, 1) := by decide +kernel
theorem dX0_daysOf_1 : decode cX0_daysOf 1 = .ok (.ifCond .lt 21, 3) := by decide +kernel
theorem dX0_daysOf_4 : decode cX0_daysOf 4 = .ok (.iload_n 1, 1) := by decide +kernel
theorem dX0_daysOf_5 : decode cX0_daysOf 5 = .ok (.aload_n 0, 1) := by decide +kernel
theorem dX0_daysOf_6 : decode cX0_daysOf 6 = .ok (.getfield 15, 3) := by decide +kernel
theorem dX0_daysOf_9 : decode cX0_daysOf 9 = .ok (.arraylength, 1) := by decide +kernel
theorem dX0_daysOf_10 : decode cX0_daysOf 10 = .ok (.if_icmp .ge 12, 3) := by decide +kernel
theorem dX0_daysOf_13 : decode cX0_daysOf 13 = .ok (.aload_n 0, 1) := by decide +kernel
theorem dX0_daysOf_14 : decode cX0_daysOf 14 = .ok (.getfield 15, 3) := by decide +kernel
theorem dX0_daysOf_17 : decode cX0_daysOf 17 = .ok (.iload_n 1, 1) := by decide +kernel
theorem dX0_daysOf_18 : decode cX0_daysOf 18 = .ok (.iaload, 1) := by decide +kernel
theorem dX0_daysOf_19 : decode cX0_daysOf 19 = .ok (.goto 4, 3) := by decide +kernel
theorem dX0_daysOf_22 : decode cX0_daysOf 22 = .ok (.iconst 0, 1) := by decide +kernel
theorem dX0_daysOf_23 : decode cX0_daysOf 23 = .ok (.ireturn, 1) := by decide +kernel
theorem dX0_helpKindOf_0 : decode cX0_helpKindOf 0 = .ok (.iload_n 1, 1) := by decide +kernel
theorem dX0_helpKindOf_1 : decode cX0_helpKindOf 1 = .ok (.ifCond .lt 21, 3) := by decide +kernel
theorem dX0_helpKindOf_4 : decode cX0_helpKindOf 4 = .ok (.iload_n 1, 1) := by decide +kernel
theorem dX0_helpKindOf_5 : decode cX0_helpKindOf 5 = .ok (.aload_n 0, 1) := by decide +kernel
theorem dX0_helpKindOf_6 : decode cX0_helpKindOf 6 = .ok (.getfield 21, 3) := by decide +kernel
theorem dX0_helpKindOf_9 : decode cX0_helpKindOf 9 = .ok (.arraylength, 1) := by decide +kernel
theorem dX0_helpKindOf_10 : decode cX0_helpKindOf 10 = .ok (.if_icmp .ge 12, 3) := by decide +kernel
theorem dX0_helpKindOf_13 : decode cX0_helpKindOf 13 = .ok (.aload_n 0, 1) := by decide +kernel
theorem dX0_helpKindOf_14 : decode cX0_helpKindOf 14 = .ok (.getfield 21, 3) := by decide +kernel
theorem dX0_helpKindOf_17 : decode cX0_helpKindOf 17 = .ok (.iload_n 1, 1) := by decide +kernel
theorem dX0_helpKindOf_18 : decode cX0_helpKindOf 18 = .ok (.iaload, 1) := by decide +kernel
theorem dX0_helpKindOf_19 : decode cX0_helpKindOf 19 = .ok (.goto 4, 3) := by decide +kernel
theorem dX0_helpKindOf_22 : decode cX0_helpKindOf 22 = .ok (.iconst 0, 1) := by decide +kernel
theorem dX0_helpKindOf_23 : decode cX0_helpKindOf 23 = .ok (.ireturn, 1) := by decide +kernel
theorem dX0_nextOf_0 : decode cX0_nextOf 0 = .ok (.iload_n 1, 1) := by decide +kernel
theorem dX0_nextOf_1 : decode cX0_nextOf 1 = .ok (.ifCond .lt 21, 3) := by decide +kernel
theorem dX0_nextOf_4 : decode cX0_nextOf 4 = .ok (.iload_n 1, 1) := by decide +kernel
theorem dX0_nextOf_5 : decode cX0_nextOf 5 = .ok (.aload_n 0, 1) := by decide +kernel
theorem dX0_nextOf_6 : decode cX0_nextOf 6 = .ok (.getfield 24, 3) := by decide +kernel
theorem dX0_nextOf_9 : decode cX0_nextOf 9 = .ok (.arraylength, 1) := by decide +kernel
theorem dX0_nextOf_10 : decode cX0_nextOf 10 = .ok (.if_icmp .ge 12, 3) := by decide +kernel
theorem dX0_nextOf_13 : decode cX0_nextOf 13 = .ok (.aload_n 0, 1) := by decide +kernel
theorem dX0_nextOf_14 : decode cX0_nextOf 14 = .ok (.getfield 24, 3) := by decide +kernel
theorem dX0_nextOf_17 : decode cX0_nextOf 17 = .ok (.iload_n 1, 1) := by decide +kernel
theorem dX0_nextOf_18 : decode cX0_nextOf 18 = .ok (.iaload, 1) := by decide +kernel
theorem dX0_nextOf_19 : decode cX0_nextOf 19 = .ok (.goto 4, 3) := by decide +kernel
theorem dX0_nextOf_22 : decode cX0_nextOf 22 = .ok (.iconst 0, 1) := by decide +kernel
theorem dX0_nextOf_23 : decode cX0_nextOf 23 = .ok (.ireturn, 1) := by decide +kernel
theorem dX0_helperKindOf_0 : decode cX0_helperKindOf 0 = .ok (.iload_n 1, 1) := by decide +kernel
theorem dX0_helperKindOf_1 : decode cX0_helperKindOf 1 = .ok (.ifCond .lt 21, 3) := by decide +kernel
theorem dX0_helperKindOf_4 : decode cX0_helperKindOf 4 = .ok (.iload_n 1, 1) := by decide +kernel
theorem dX0_helperKindOf_5 : decode cX0_helperKindOf 5 = .ok (.aload_n 0, 1) := by decide +kernel
theorem dX0_helperKindOf_6 : decode cX0_helperKindOf 6 = .ok (.getfield 27, 3) := by decide +kernel
theorem dX0_helperKindOf_9 : decode cX0_helperKindOf 9 = .ok (.arraylength, 1) := by decide +kernel
theorem dX0_helperKindOf_10 : decode cX0_helperKindOf 10 = .ok (.if_icmp .ge 12, 3) := by decide +kernel
theorem dX0_helperKindOf_13 : decode cX0_helperKindOf 13 = .ok (.aload_n 0, 1) := by decide +kernel
theorem dX0_helperKindOf_14 : decode cX0_helperKindOf 14 = .ok (.getfield 27, 3) := by decide +kernel
theorem dX0_helperKindOf_17 : decode cX0_helperKindOf 17 = .ok (.iload_n 1, 1) := by decide +kernel
theorem dX0_helperKindOf_18 : decode cX0_helperKindOf 18 = .ok (.iaload, 1) := by decide +kernel
theorem dX0_helperKindOf_19 : decode cX0_helperKindOf 19 = .ok (.goto 4, 3) := by decide +kernel
theorem dX0_helperKindOf_22 : decode cX0_helperKindOf 22 = .ok (.iconst 0, 1) := by decide +kernel
theorem dX0_helperKindOf_23 : decode cX0_helperKindOf 23 = .ok (.ireturn, 1) := by decide +kernel
theorem dX0_priceOf_0 : decode cX0_priceOf 0 = .ok (.iload_n 1, 1) := by decide +kernel
theorem dX0_priceOf_1 : decode cX0_priceOf 1 = .ok (.ifCond .lt 21, 3) := by decide +kernel
theorem dX0_priceOf_4 : decode cX0_priceOf 4 = .ok (.iload_n 1, 1) := by decide +kernel
theorem dX0_priceOf_5 : decode cX0_priceOf 5 = .ok (.aload_n 0, 1) := by decide +kernel
theorem dX0_priceOf_6 : decode cX0_priceOf 6 = .ok (.getfield 30, 3) := by decide +kernel
theorem dX0_priceOf_9 : decode cX0_priceOf 9 = .ok (.arraylength, 1) := by decide +kernel
theorem dX0_priceOf_10 : decode cX0_priceOf 10 = .ok (.if_icmp .ge 12, 3) := by decide +kernel
theorem dX0_priceOf_13 : decode cX0_priceOf 13 = .ok (.aload_n 0, 1) := by decide +kernel
theorem dX0_priceOf_14 : decode cX0_priceOf 14 = .ok (.getfield 30, 3) := by decide +kernel
theorem dX0_priceOf_17 : decode cX0_priceOf 17 = .ok (.iload_n 1, 1) := by decide +kernel
theorem dX0_priceOf_18 : decode cX0_priceOf 18 = .ok (.iaload, 1) := by decide +kernel
theorem dX0_priceOf_19 : decode cX0_priceOf 19 = .ok (.goto 4, 3) := by decide +kernel
theorem dX0_priceOf_22 : decode cX0_priceOf 22 = .ok (.iconst 0, 1) := by decide +kernel
theorem dX0_priceOf_23 : decode cX0_priceOf 23 = .ok (.ireturn, 1) := by decide +kernel
theorem dX0_rideDaysOf_0 : decode cX0_rideDaysOf 0 = .ok (.iload_n 1, 1) := by decide +kernel
theorem dX0_rideDaysOf_1 : decode cX0_rideDaysOf 1 = .ok (.ifCond .lt 21, 3) := by decide +kernel
theorem dX0_rideDaysOf_4 : decode cX0_rideDaysOf 4 = .ok (.iload_n 1, 1) := by decide +kernel
theorem dX0_rideDaysOf_5 : decode cX0_rideDaysOf 5 = .ok (.aload_n 0, 1) := by decide +kernel
theorem dX0_rideDaysOf_6 : decode cX0_rideDaysOf 6 = .ok (.getfield 18, 3) := by decide +kernel
theorem dX0_rideDaysOf_9 : decode cX0_rideDaysOf 9 = .ok (.arraylength, 1) := by decide +kernel
theorem dX0_rideDaysOf_10 : decode cX0_rideDaysOf 10 = .ok (.if_icmp .ge 12, 3) := by decide +kernel
theorem dX0_rideDaysOf_13 : decode cX0_rideDaysOf 13 = .ok (.aload_n 0, 1) := by decide +kernel
theorem dX0_rideDaysOf_14 : decode cX0_rideDaysOf 14 = .ok (.getfield 18, 3) := by decide +kernel
theorem dX0_rideDaysOf_17 : decode cX0_rideDaysOf 17 = .ok (.iload_n 1, 1) := by decide +kernel
theorem dX0_rideDaysOf_18 : decode cX0_rideDaysOf 18 = .ok (.iaload, 1) := by decide +kernel
theorem dX0_rideDaysOf_19 : decode cX0_rideDaysOf 19 = .ok (.goto 4, 3) := by decide +kernel
theorem dX0_rideDaysOf_22 : decode cX0_rideDaysOf 22 = .ok (.iconst 0, 1) := by decide +kernel
theorem dX0_rideDaysOf_23 : decode cX0_rideDaysOf 23 = .ok (.ireturn, 1) := by decide +kernel
set_option maxRecDepth 20000 in
theorem ggX0_rideDaysOfSet_X5_bit : GoodIn wsX0_rideDaysOfSet wsX5_bit := goodIn_r _ [4] (by decide +kernel) (by decide +kernel)
set_option maxRecDepth 20000 in
theorem gX0_rideDaysOfSet_X5_bit_n46 : GoodIn wsX0_rideDaysOfSet (wsX5_bit) := ggX0_rideDaysOfSet_X5_bit
set_option maxRecDepth 20000 in
theorem ggX0_rideDaysOfSet_X0_rideDaysOf : GoodIn wsX0_rideDaysOfSet wsX0_rideDaysOf := goodIn_r _ [9, 10, 11, 12, 13, 14, 15, 16, 17, 18, 19, 20, 21, 22, 23, 24] (by decide +kernel) (by decide +kernel)
set_option maxRecDepth 20000 in
theorem gX0_rideDaysOfSet_X0_rideDaysOf : GoodIn wsX0_rideDaysOfSet (wsV RX0 50 RX0 yX0_rideDaysOf wsX0_rideDaysOf) := goodIn_app (goodIn_of _ (by decide +kernel)) ggX0_rideDaysOfSet_X0_rideDaysOf
theorem dX0_rideDaysOfSet_0 : decode cX0_rideDaysOfSet 0 = .ok (.iconst 0, 1) := by decide +kernel
theorem dX0_rideDaysOfSet_1 : decode cX0_rideDaysOfSet 1 = .ok (.istore_n 2, 1) := by decide +kernel
theorem dX0_rideDaysOfSet_2 : decode cX0_rideDaysOfSet 2 = .ok (.iconst 0, 1) := by decide +kernel
theorem dX0_rideDaysOfSet_3 : decode cX0_rideDaysOfSet 3 = .ok (.istore_n 3, 1) := by decide +kernel
theorem dX0_rideDaysOfSet_4 : decode cX0_rideDaysOfSet 4 = .ok (.iload_n 3, 1) := by decide +kernel
theorem dX0_rideDaysOfSet_5 : decode cX0_rideDaysOfSet 5 = .ok (.aload_n 0, 1) := by decide +kernel
theorem dX0_rideDaysOfSet_6 : decode cX0_rideDaysOfSet 6 = .ok (.getfield 39, 3) := by decide +kernel
theorem dX0_rideDaysOfSet_9 : decode cX0_rideDaysOfSet 9 = .ok (.if_icmp .ge 26, 3) := by decide +kernel
theorem dX0_rideDaysOfSet_12 : decode cX0_rideDaysOfSet 12 = .ok (.iload_n 1, 1) := by decide +kernel
theorem dX0_rideDaysOfSet_13 : decode cX0_rideDaysOfSet 13 = .ok (.iload_n 3, 1) := by decide +kernel
theorem dX0_rideDaysOfSet_14 : decode cX0_rideDaysOfSet 14 = .ok (.invokestatic 46, 3) := by decide +kernel
theorem dX0_rideDaysOfSet_17 : decode cX0_rideDaysOfSet 17 = .ok (.iand, 1) := by decide +kernel
theorem dX0_rideDaysOfSet_18 : decode cX0_rideDaysOfSet 18 = .ok (.ifCond .eq 11, 3) := by decide +kernel
theorem dX0_rideDaysOfSet_21 : decode cX0_rideDaysOfSet 21 = .ok (.iload_n 2, 1) := by decide +kernel
theorem dX0_rideDaysOfSet_22 : decode cX0_rideDaysOfSet 22 = .ok (.aload_n 0, 1) := by decide +kernel
theorem dX0_rideDaysOfSet_23 : decode cX0_rideDaysOfSet 23 = .ok (.iload_n 3, 1) := by decide +kernel
theorem dX0_rideDaysOfSet_24 : decode cX0_rideDaysOfSet 24 = .ok (.invokevirtual 50, 3) := by decide +kernel
theorem dX0_rideDaysOfSet_27 : decode cX0_rideDaysOfSet 27 = .ok (.iadd, 1) := by decide +kernel
theorem dX0_rideDaysOfSet_28 : decode cX0_rideDaysOfSet 28 = .ok (.istore_n 2, 1) := by decide +kernel
theorem dX0_rideDaysOfSet_29 : decode cX0_rideDaysOfSet 29 = .ok (.iinc 3 1, 3) := by decide +kernel
theorem dX0_rideDaysOfSet_32 : decode cX0_rideDaysOfSet 32 = .ok (.goto (-28), 3) := by decide +kernel
theorem dX0_rideDaysOfSet_35 : decode cX0_rideDaysOfSet 35 = .ok (.iload_n 2, 1) := by decide +kernel
theorem dX0_rideDaysOfSet_36 : decode cX0_rideDaysOfSet 36 = .ok (.ireturn, 1) := by decide +kernel
theorem dX0_helpersOf_0 : decode cX0_helpersOf 0 = .ok (.iload_n 1, 1) := by decide +kernel
theorem dX0_helpersOf_1 : decode cX0_helpersOf 1 = .ok (.ifCond .lt 21, 3) := by decide +kernel
theorem dX0_helpersOf_4 : decode cX0_helpersOf 4 = .ok (.iload_n 1, 1) := by decide +kernel
theorem dX0_helpersOf_5 : decode cX0_helpersOf 5 = .ok (.aload_n 0, 1) := by decide +kernel
theorem dX0_helpersOf_6 : decode cX0_helpersOf 6 = .ok (.getfield 33, 3) := by decide +kernel
theorem dX0_helpersOf_9 : decode cX0_helpersOf 9 = .ok (.arraylength, 1) := by decide +kernel
theorem dX0_helpersOf_10 : decode cX0_helpersOf 10 = .ok (.if_icmp .ge 12, 3) := by decide +kernel
theorem dX0_helpersOf_13 : decode cX0_helpersOf 13 = .ok (.aload_n 0, 1) := by decide +kernel
theorem dX0_helpersOf_14 : decode cX0_helpersOf 14 = .ok (.getfield 33, 3) := by decide +kernel
theorem dX0_helpersOf_17 : decode cX0_helpersOf 17 = .ok (.iload_n 1, 1) := by decide +kernel
theorem dX0_helpersOf_18 : decode cX0_helpersOf 18 = .ok (.iaload, 1) := by decide +kernel
theorem dX0_helpersOf_19 : decode cX0_helpersOf 19 = .ok (.goto 4, 3) := by decide +kernel
theorem dX0_helpersOf_22 : decode cX0_helpersOf 22 = .ok (.iconst 0, 1) := by decide +kernel
theorem dX0_helpersOf_23 : decode cX0_helpersOf 23 = .ok (.ireturn, 1) := by decide +kernel
set_option maxRecDepth 20000 in
theorem ggX0_priceOfSet_X5_bit : GoodIn wsX0_priceOfSet wsX5_bit := goodIn_r _ [4] (by decide +kernel) (by decide +kernel)
set_option maxRecDepth 20000 in
theorem gX0_priceOfSet_X5_bit_n46 : GoodIn wsX0_priceOfSet (wsX5_bit) := ggX0_priceOfSet_X5_bit
set_option maxRecDepth 20000 in
theorem ggX0_priceOfSet_X0_priceOf : GoodIn wsX0_priceOfSet wsX0_priceOf := goodIn_r _ [9, 10, 11, 12, 13, 14, 15, 16, 17, 18, 19, 20, 21, 22, 23, 24] (by decide +kernel) (by decide +kernel)
set_option maxRecDepth 20000 in
theorem gX0_priceOfSet_X0_priceOf : GoodIn wsX0_priceOfSet (wsV RX0 53 RX0 yX0_priceOf wsX0_priceOf) := goodIn_app (goodIn_of _ (by decide +kernel)) ggX0_priceOfSet_X0_priceOf
theorem dX0_priceOfSet_0 : decode cX0_priceOfSet 0 = .ok (.iconst 0, 1) := by decide +kernel
theorem dX0_priceOfSet_1 : decode cX0_priceOfSet 1 = .ok (.istore_n 2, 1) := by decide +kernel
theorem dX0_priceOfSet_2 : decode cX0_priceOfSet 2 = .ok (.iconst 0, 1) := by decide +kernel
theorem dX0_priceOfSet_3 : decode cX0_priceOfSet 3 = .ok (.istore_n 3, 1) := by decide +kernel
theorem dX0_priceOfSet_4 : decode cX0_priceOfSet 4 = .ok (.iload_n 3, 1) := by decide +kernel
theorem dX0_priceOfSet_5 : decode cX0_priceOfSet 5 = .ok (.aload_n 0, 1) := by decide +kernel
theorem dX0_priceOfSet_6 : decode cX0_priceOfSet 6 = .ok (.getfield 43, 3) := by decide +kernel
theorem dX0_priceOfSet_9 : decode cX0_priceOfSet 9 = .ok (.if_icmp .ge 26, 3) := by decide +kernel
theorem dX0_priceOfSet_12 : decode cX0_priceOfSet 12 = .ok (.iload_n 1, 1) := by decide +kernel
theorem dX0_priceOfSet_13 : decode cX0_priceOfSet 13 = .ok (.iload_n 3, 1) := by decide +kernel
theorem dX0_priceOfSet_14 : decode cX0_priceOfSet 14 = .ok (.invokestatic 46, 3) := by decide +kernel
theorem dX0_priceOfSet_17 : decode cX0_priceOfSet 17 = .ok (.iand, 1) := by decide +kernel
theorem dX0_priceOfSet_18 : decode cX0_priceOfSet 18 = .ok (.ifCond .eq 11, 3) := by decide +kernel
theorem dX0_priceOfSet_21 : decode cX0_priceOfSet 21 = .ok (.iload_n 2, 1) := by decide +kernel
theorem dX0_priceOfSet_22 : decode cX0_priceOfSet 22 = .ok (.aload_n 0, 1) := by decide +kernel
theorem dX0_priceOfSet_23 : decode cX0_priceOfSet 23 = .ok (.iload_n 3, 1) := by decide +kernel
theorem dX0_priceOfSet_24 : decode cX0_priceOfSet 24 = .ok (.invokevirtual 53, 3) := by decide +kernel
theorem dX0_priceOfSet_27 : decode cX0_priceOfSet 27 = .ok (.iadd, 1) := by decide +kernel
theorem dX0_priceOfSet_28 : decode cX0_priceOfSet 28 = .ok (.istore_n 2, 1) := by decide +kernel
theorem dX0_priceOfSet_29 : decode cX0_priceOfSet 29 = .ok (.iinc 3 1, 3) := by decide +kernel
theorem dX0_priceOfSet_32 : decode cX0_priceOfSet 32 = .ok (.goto (-28), 3) := by decide +kernel
theorem dX0_priceOfSet_35 : decode cX0_priceOfSet 35 = .ok (.iload_n 2, 1) := by decide +kernel
theorem dX0_priceOfSet_36 : decode cX0_priceOfSet 36 = .ok (.ireturn, 1) := by decide +kernel
set_option maxRecDepth 20000 in
theorem ggX0_isHelpEnough_J6_bitCount_0f7a4 : GoodIn wsX0_isHelpEnough wsJ6_bitCount_0f7a4 := goodIn_r _ [4, 5, 6, 7] (by decide +kernel) (by decide +kernel)
set_option maxRecDepth 20000 in
theorem gX0_isHelpEnough_J6_bitCount_0f7a4 : GoodIn wsX0_isHelpEnough (va_wsS RX0 56 yJ6_bitCount_0f7a4 wsJ6_bitCount_0f7a4) := goodIn_app (goodIn_of _ (by decide +kernel)) ggX0_isHelpEnough_J6_bitCount_0f7a4
set_option maxRecDepth 20000 in
theorem ggX0_isHelpEnough_X0_helpOfAny : GoodIn wsX0_isHelpEnough wsX0_helpOfAny := goodIn_r _ [12, 13, 14, 15, 16, 17, 18, 19, 11, 20, 21, 36, 37, 38, 39, 40, 41, 42, 43, 44, 45, 46, 47, 48, 49] (by decide +kernel) (by decide +kernel)
set_option maxRecDepth 20000 in
theorem gX0_isHelpEnough_X0_helpOfAny : GoodIn wsX0_isHelpEnough (wsV RX0 61 RX0 yX0_helpOfAny wsX0_helpOfAny) := goodIn_app (goodIn_of _ (by decide +kernel)) ggX0_isHelpEnough_X0_helpOfAny
set_option maxRecDepth 20000 in
theorem ggX0_isHelpEnough_X0_helpOfKind : GoodIn wsX0_isHelpEnough wsX0_helpOfKind := goodIn_r _ [25, 13, 14, 15, 16, 26, 27, 28, 11, 29, 30, 17, 18, 19, 20, 21, 36, 37, 38, 39, 40, 41, 42, 43, 44, 45, 46, 47, 48, 49] (by decide +kernel) (by decide +kernel)
set_option maxRecDepth 20000 in
theorem gX0_isHelpEnough_X0_helpOfKind : GoodIn wsX0_isHelpEnough (wsV RX0 64 RX0 yX0_helpOfKind wsX0_helpOfKind) := goodIn_app (goodIn_of _ (by decide +kernel)) ggX0_isHelpEnough_X0_helpOfKind
set_option maxRecDepth 20000 in
theorem ggX0_isHelpEnough_X0_helpersOf : GoodIn wsX0_isHelpEnough wsX0_helpersOf := goodIn_r _ [34, 35, 36, 37, 38, 39, 40, 41, 42, 43, 44, 45, 46, 47, 48, 49] (by decide +kernel) (by decide +kernel)
set_option maxRecDepth 20000 in
theorem gX0_isHelpEnough_X0_helpersOf : GoodIn wsX0_isHelpEnough (wsV RX0 68 RX0 yX0_helpersOf wsX0_helpersOf) := goodIn_app (goodIn_of _ (by decide +kernel)) ggX0_isHelpEnough_X0_helpersOf
theorem dX0_isHelpEnough_0 : decode cX0_isHelpEnough 0 = .ok (.iload_n 2, 1) := by decide +kernel
theorem dX0_isHelpEnough_1 : decode cX0_isHelpEnough 1 = .ok (.invokestatic 56, 3) := by decide +kernel
theorem dX0_isHelpEnough_4 : decode cX0_isHelpEnough 4 = .ok (.aload_n 0, 1) := by decide +kernel
theorem dX0_isHelpEnough_5 : decode cX0_isHelpEnough 5 = .ok (.iload_n 1, 1) := by decide +kernel
theorem dX0_isHelpEnough_6 : decode cX0_isHelpEnough 6 = .ok (.invokevirtual 61, 3) := by decide +kernel
theorem dX0_isHelpEnough_9 : decode cX0_isHelpEnough 9 = .ok (.isub, 1) := by decide +kernel
theorem dX0_isHelpEnough_10 : decode cX0_isHelpEnough 10 = .ok (.istore_n 3, 1) := by decide +kernel
theorem dX0_isHelpEnough_11 : decode cX0_isHelpEnough 11 = .ok (.iconst 0, 1) := by decide +kernel
theorem dX0_isHelpEnough_12 : decode cX0_isHelpEnough 12 = .ok (.istore 4, 2) := by decide +kernel
theorem dX0_isHelpEnough_14 : decode cX0_isHelpEnough 14 = .ok (.iload 4, 2) := by decide +kernel
theorem dX0_isHelpEnough_16 : decode cX0_isHelpEnough 16 = .ok (.iconst 5, 1) := by decide +kernel
theorem dX0_isHelpEnough_17 : decode cX0_isHelpEnough 17 = .ok (.if_icmp .ge 41, 3) := by decide +kernel
theorem dX0_isHelpEnough_20 : decode cX0_isHelpEnough 20 = .ok (.aload_n 0, 1) := by decide +kernel
theorem dX0_isHelpEnough_21 : decode cX0_isHelpEnough 21 = .ok (.iload_n 1, 1) := by decide +kernel
theorem dX0_isHelpEnough_22 : decode cX0_isHelpEnough 22 = .ok (.iload 4, 2) := by decide +kernel
theorem dX0_isHelpEnough_24 : decode cX0_isHelpEnough 24 = .ok (.invokevirtual 64, 3) := by decide +kernel
theorem dX0_isHelpEnough_27 : decode cX0_isHelpEnough 27 = .ok (.istore 5, 2) := by decide +kernel
theorem dX0_isHelpEnough_29 : decode cX0_isHelpEnough 29 = .ok (.iload 5, 2) := by decide +kernel
theorem dX0_isHelpEnough_31 : decode cX0_isHelpEnough 31 = .ok (.iload_n 2, 1) := by decide +kernel
theorem dX0_isHelpEnough_32 : decode cX0_isHelpEnough 32 = .ok (.aload_n 0, 1) := by decide +kernel
theorem dX0_isHelpEnough_33 : decode cX0_isHelpEnough 33 = .ok (.iload 4, 2) := by decide +kernel
theorem dX0_isHelpEnough_35 : decode cX0_isHelpEnough 35 = .ok (.invokevirtual 68, 3) := by decide +kernel
theorem dX0_isHelpEnough_38 : decode cX0_isHelpEnough 38 = .ok (.iand, 1) := by decide +kernel
theorem dX0_isHelpEnough_39 : decode cX0_isHelpEnough 39 = .ok (.invokestatic 56, 3) := by decide +kernel
theorem dX0_isHelpEnough_42 : decode cX0_isHelpEnough 42 = .ok (.if_icmp .le 5, 3) := by decide +kernel
theorem dX0_isHelpEnough_45 : decode cX0_isHelpEnough 45 = .ok (.iconst 0, 1) := by decide +kernel
theorem dX0_isHelpEnough_46 : decode cX0_isHelpEnough 46 = .ok (.ireturn, 1) := by decide +kernel
theorem dX0_isHelpEnough_47 : decode cX0_isHelpEnough 47 = .ok (.iload_n 3, 1) := by decide +kernel
theorem dX0_isHelpEnough_48 : decode cX0_isHelpEnough 48 = .ok (.iload 5, 2) := by decide +kernel
theorem dX0_isHelpEnough_50 : decode cX0_isHelpEnough 50 = .ok (.isub, 1) := by decide +kernel
theorem dX0_isHelpEnough_51 : decode cX0_isHelpEnough 51 = .ok (.istore_n 3, 1) := by decide +kernel
theorem dX0_isHelpEnough_52 : decode cX0_isHelpEnough 52 = .ok (.iinc 4 1, 3) := by decide +kernel
theorem dX0_isHelpEnough_55 : decode cX0_isHelpEnough 55 = .ok (.goto (-41), 3) := by decide +kernel
theorem dX0_isHelpEnough_58 : decode cX0_isHelpEnough 58 = .ok (.iload_n 3, 1) := by decide +kernel
theorem dX0_isHelpEnough_59 : decode cX0_isHelpEnough 59 = .ok (.ifCond .lt 7, 3) := by decide +kernel
theorem dX0_isHelpEnough_62 : decode cX0_isHelpEnough 62 = .ok (.iconst 1, 1) := by decide +kernel
theorem dX0_isHelpEnough_63 : decode cX0_isHelpEnough 63 = .ok (.goto 4, 3) := by decide +kernel
theorem dX0_isHelpEnough_66 : decode cX0_isHelpEnough 66 = .ok (.iconst 0, 1) := by decide +kernel
theorem dX0_isHelpEnough_67 : decode cX0_isHelpEnough 67 = .ok (.ireturn, 1) := by decide +kernel
set_option maxRecDepth 20000 in
theorem ggX0_helpOfKind_X5_bit : GoodIn wsX0_helpOfKind wsX5_bit := goodIn_r _ [4] (by decide +kernel) (by decide +kernel)
set_option maxRecDepth 20000 in
theorem gX0_helpOfKind_X5_bit_n46 : GoodIn wsX0_helpOfKind (wsX5_bit) := ggX0_helpOfKind_X5_bit
set_option maxRecDepth 20000 in
theorem ggX0_helpOfKind_X0_helpKindOf : GoodIn wsX0_helpOfKind wsX0_helpKindOf := goodIn_r _ [9, 10, 16, 17, 18, 19, 20, 21, 22, 23, 24, 25, 26, 27, 28, 29] (by decide +kernel) (by decide +kernel)
set_option maxRecDepth 20000 in
theorem gX0_helpOfKind_X0_helpKindOf : GoodIn wsX0_helpOfKind (wsV RX0 71 RX0 yX0_helpKindOf wsX0_helpKindOf) := goodIn_app (goodIn_of _ (by decide +kernel)) ggX0_helpOfKind_X0_helpKindOf
set_option maxRecDepth 20000 in
theorem ggX0_helpOfKind_X0_kindOf : GoodIn wsX0_helpOfKind wsX0_kindOf := goodIn_r _ [14, 15, 16, 17, 18, 19, 20, 21, 22, 23, 24, 25, 26, 27, 28, 29] (by decide +kernel) (by decide +kernel)
set_option maxRecDepth 20000 in
theorem gX0_helpOfKind_X0_kindOf : GoodIn wsX0_helpOfKind (wsV RX0 74 RX0 yX0_kindOf wsX0_kindOf) := goodIn_app (goodIn_of _ (by decide +kernel)) ggX0_helpOfKind_X0_kindOf
theorem dX0_helpOfKind_0 : decode cX0_helpOfKind 0 = .ok (.iconst 0, 1) := by decide +kernel
theorem dX0_helpOfKind_1 : decode cX0_helpOfKind 1 = .ok (.istore_n 3, 1) := by decide +kernel
theorem dX0_helpOfKind_2 : decode cX0_helpOfKind 2 = .ok (.iconst 0, 1) := by decide +kernel
theorem dX0_helpOfKind_3 : decode cX0_helpOfKind 3 = .ok (.istore 4, 2) := by decide +kernel
theorem dX0_helpOfKind_5 : decode cX0_helpOfKind 5 = .ok (.iload 4, 2) := by decide +kernel
theorem dX0_helpOfKind_7 : decode cX0_helpOfKind 7 = .ok (.aload_n 0, 1) := by decide +kernel
theorem dX0_helpOfKind_8 : decode cX0_helpOfKind 8 = .ok (.getfield 39, 3) := by decide +kernel
theorem dX0_helpOfKind_11 : decode cX0_helpOfKind 11 = .ok (.if_icmp .ge 57, 3) := by decide +kernel
theorem dX0_helpOfKind_14 : decode cX0_helpOfKind 14 = .ok (.iload_n 1, 1) := by decide +kernel
theorem dX0_helpOfKind_15 : decode cX0_helpOfKind 15 = .ok (.iload 4, 2) := by decide +kernel
theorem dX0_helpOfKind_17 : decode cX0_helpOfKind 17 = .ok (.invokestatic 46, 3) := by decide +kernel
theorem dX0_helpOfKind_20 : decode cX0_helpOfKind 20 = .ok (.iand, 1) := by decide +kernel
theorem dX0_helpOfKind_21 : decode cX0_helpOfKind 21 = .ok (.ifCond .eq 41, 3) := by decide +kernel
theorem dX0_helpOfKind_24 : decode cX0_helpOfKind 24 = .ok (.aload_n 0, 1) := by decide +kernel
theorem dX0_helpOfKind_25 : decode cX0_helpOfKind 25 = .ok (.iload 4, 2) := by decide +kernel
theorem dX0_helpOfKind_27 : decode cX0_helpOfKind 27 = .ok (.invokevirtual 71, 3) := by decide +kernel
theorem dX0_helpOfKind_30 : decode cX0_helpOfKind 30 = .ok (.iload_n 2, 1) := by decide +kernel
theorem dX0_helpOfKind_31 : decode cX0_helpOfKind 31 = .ok (.if_icmp .ne 31, 3) := by decide +kernel
theorem dX0_helpOfKind_34 : decode cX0_helpOfKind 34 = .ok (.aload_n 0, 1) := by decide +kernel
theorem dX0_helpOfKind_35 : decode cX0_helpOfKind 35 = .ok (.iload 4, 2) := by decide +kernel
theorem dX0_helpOfKind_37 : decode cX0_helpOfKind 37 = .ok (.invokevirtual 74, 3) := by decide +kernel
theorem dX0_helpOfKind_40 : decode cX0_helpOfKind 40 = .ok (.iconst 2, 1) := by decide +kernel
theorem dX0_helpOfKind_41 : decode cX0_helpOfKind 41 = .ok (.if_icmp .eq 21, 3) := by decide +kernel
theorem dX0_helpOfKind_44 : decode cX0_helpOfKind 44 = .ok (.iload_n 3, 1) := by decide +kernel
theorem dX0_helpOfKind_45 : decode cX0_helpOfKind 45 = .ok (.aload_n 0, 1) := by decide +kernel
theorem dX0_helpOfKind_46 : decode cX0_helpOfKind 46 = .ok (.iload 4, 2) := by decide +kernel
theorem dX0_helpOfKind_48 : decode cX0_helpOfKind 48 = .ok (.invokevirtual 74, 3) := by decide +kernel
theorem dX0_helpOfKind_51 : decode cX0_helpOfKind 51 = .ok (.iconst 1, 1) := by decide +kernel
theorem dX0_helpOfKind_52 : decode cX0_helpOfKind 52 = .ok (.if_icmp .ne 7, 3) := by decide +kernel
theorem dX0_helpOfKind_55 : decode cX0_helpOfKind 55 = .ok (.iconst 2, 1) := by decide +kernel
theorem dX0_helpOfKind_56 : decode cX0_helpOfKind 56 = .ok (.goto 4, 3) := by decide +kernel
theorem dX0_helpOfKind_59 : decode cX0_helpOfKind 59 = .ok (.iconst 1, 1) := by decide +kernel
theorem dX0_helpOfKind_60 : decode cX0_helpOfKind 60 = .ok (.iadd, 1) := by decide +kernel
theorem dX0_helpOfKind_61 : decode cX0_helpOfKind 61 = .ok (.istore_n 3, 1) := by decide +kernel
theorem dX0_helpOfKind_62 : decode cX0_helpOfKind 62 = .ok (.iinc 4 1, 3) := by decide +kernel
theorem dX0_helpOfKind_65 : decode cX0_helpOfKind 65 = .ok (.goto (-60), 3) := by decide +kernel
theorem dX0_helpOfKind_68 : decode cX0_helpOfKind 68 = .ok (.iload_n 3, 1) := by decide +kernel
theorem dX0_helpOfKind_69 : decode cX0_helpOfKind 69 = .ok (.ireturn, 1) := by decide +kernel
set_option maxRecDepth 20000 in
theorem ggX0_helpOfAny_X5_bit : GoodIn wsX0_helpOfAny wsX5_bit := goodIn_r _ [4] (by decide +kernel) (by decide +kernel)
set_option maxRecDepth 20000 in
theorem gX0_helpOfAny_X5_bit_n46 : GoodIn wsX0_helpOfAny (wsX5_bit) := ggX0_helpOfAny_X5_bit
set_option maxRecDepth 20000 in
theorem ggX0_helpOfAny_X0_kindOf : GoodIn wsX0_helpOfAny wsX0_kindOf := goodIn_r _ [9, 10, 11, 12, 13, 14, 15, 16, 17, 18, 19, 20, 21, 22, 23, 24] (by decide +kernel) (by decide +kernel)
set_option maxRecDepth 20000 in
theorem gX0_helpOfAny_X0_kindOf : GoodIn wsX0_helpOfAny (wsV RX0 74 RX0 yX0_kindOf wsX0_kindOf) := goodIn_app (goodIn_of _ (by decide +kernel)) ggX0_helpOfAny_X0_kindOf
theorem dX0_helpOfAny_0 : decode cX0_helpOfAny 0 = .ok (.iconst 0, 1) := by decide +kernel
theorem dX0_helpOfAny_1 : decode cX0_helpOfAny 1 = .ok (.istore_n 2, 1) := by decide +kernel
theorem dX0_helpOfAny_2 : decode cX0_helpOfAny 2 = .ok (.iconst 0, 1) := by decide +kernel
theorem dX0_helpOfAny_3 : decode cX0_helpOfAny 3 = .ok (.istore_n 3, 1) := by decide +kernel
theorem dX0_helpOfAny_4 : decode cX0_helpOfAny 4 = .ok (.iload_n 3, 1) := by decide +kernel
theorem dX0_helpOfAny_5 : decode cX0_helpOfAny 5 = .ok (.aload_n 0, 1) := by decide +kernel
theorem dX0_helpOfAny_6 : decode cX0_helpOfAny 6 = .ok (.getfield 39, 3) := by decide +kernel
theorem dX0_helpOfAny_9 : decode cX0_helpOfAny 9 = .ok (.if_icmp .ge 35, 3) := by decide +kernel
theorem dX0_helpOfAny_12 : decode cX0_helpOfAny 12 = .ok (.iload_n 2, 1) := by decide +kernel
theorem dX0_helpOfAny_13 : decode cX0_helpOfAny 13 = .ok (.iload_n 1, 1) := by decide +kernel
theorem dX0_helpOfAny_14 : decode cX0_helpOfAny 14 = .ok (.iload_n 3, 1) := by decide +kernel
theorem dX0_helpOfAny_15 : decode cX0_helpOfAny 15 = .ok (.invokestatic 46, 3) := by decide +kernel
theorem dX0_helpOfAny_18 : decode cX0_helpOfAny 18 = .ok (.iand, 1) := by decide +kernel
theorem dX0_helpOfAny_19 : decode cX0_helpOfAny 19 = .ok (.ifCond .eq 16, 3) := by decide +kernel
theorem dX0_helpOfAny_22 : decode cX0_helpOfAny 22 = .ok (.aload_n 0, 1) := by decide +kernel
theorem dX0_helpOfAny_23 : decode cX0_helpOfAny 23 = .ok (.iload_n 3, 1) := by decide +kernel
theorem dX0_helpOfAny_24 : decode cX0_helpOfAny 24 = .ok (.invokevirtual 74, 3) := by decide +kernel
theorem dX0_helpOfAny_27 : decode cX0_helpOfAny 27 = .ok (.iconst 3, 1) := by decide +kernel
theorem dX0_helpOfAny_28 : decode cX0_helpOfAny 28 = .ok (.if_icmp .ne 7, 3) := by decide +kernel
theorem dX0_helpOfAny_31 : decode cX0_helpOfAny 31 = .ok (.iconst 1, 1) := by decide +kernel
theorem dX0_helpOfAny_32 : decode cX0_helpOfAny 32 = .ok (.goto 4, 3) := by decide +kernel
theorem dX0_helpOfAny_35 : decode cX0_helpOfAny 35 = .ok (.iconst 0, 1) := by decide +kernel
theorem dX0_helpOfAny_36 : decode cX0_helpOfAny 36 = .ok (.iadd, 1) := by decide +kernel
theorem dX0_helpOfAny_37 : decode cX0_helpOfAny 37 = .ok (.istore_n 2, 1) := by decide +kernel
theorem dX0_helpOfAny_38 : decode cX0_helpOfAny 38 = .ok (.iinc 3 1, 3) := by decide +kernel
theorem dX0_helpOfAny_41 : decode cX0_helpOfAny 41 = .ok (.goto (-37), 3) := by decide +kernel
theorem dX0_helpOfAny_44 : decode cX0_helpOfAny 44 = .ok (.iload_n 2, 1) := by decide +kernel
theorem dX0_helpOfAny_45 : decode cX0_helpOfAny 45 = .ok (.ireturn, 1) := by decide +kernel
set_option maxRecDepth 20000 in
theorem ggX0_tasksThatAsk_X0_nextOf : GoodIn wsX0_tasksThatAsk wsX0_nextOf := goodIn_r _ [6, 7, 11, 12, 13, 14, 15, 16, 17, 18, 19, 20, 21, 22, 23, 24] (by decide +kernel) (by decide +kernel)
set_option maxRecDepth 20000 in
theorem gX0_tasksThatAsk_X0_nextOf : GoodIn wsX0_tasksThatAsk (wsV RX0 77 RX0 yX0_nextOf wsX0_nextOf) := goodIn_app (goodIn_of _ (by decide +kernel)) ggX0_tasksThatAsk_X0_nextOf
set_option maxRecDepth 20000 in
theorem ggX0_tasksThatAsk_X5_bit : GoodIn wsX0_tasksThatAsk wsX5_bit := goodIn_r _ [10] (by decide +kernel) (by decide +kernel)
set_option maxRecDepth 20000 in
theorem gX0_tasksThatAsk_X5_bit_n46 : GoodIn wsX0_tasksThatAsk (wsX5_bit) := ggX0_tasksThatAsk_X5_bit
theorem dX0_tasksThatAsk_0 : decode cX0_tasksThatAsk 0 = .ok (.iconst 0, 1) := by decide +kernel
theorem dX0_tasksThatAsk_1 : decode cX0_tasksThatAsk 1 = .ok (.istore_n 2, 1) := by decide +kernel
theorem dX0_tasksThatAsk_2 : decode cX0_tasksThatAsk 2 = .ok (.iconst 0, 1) := by decide +kernel
theorem dX0_tasksThatAsk_3 : decode cX0_tasksThatAsk 3 = .ok (.istore_n 3, 1) := by decide +kernel
theorem dX0_tasksThatAsk_4 : decode cX0_tasksThatAsk 4 = .ok (.iload_n 3, 1) := by decide +kernel
theorem dX0_tasksThatAsk_5 : decode cX0_tasksThatAsk 5 = .ok (.aload_n 0, 1) := by decide +kernel
theorem dX0_tasksThatAsk_6 : decode cX0_tasksThatAsk 6 = .ok (.getfield 39, 3) := by decide +kernel
theorem dX0_tasksThatAsk_9 : decode cX0_tasksThatAsk 9 = .ok (.if_icmp .ge 30, 3) := by decide +kernel
theorem dX0_tasksThatAsk_12 : decode cX0_tasksThatAsk 12 = .ok (.iload_n 3, 1) := by decide +kernel
theorem dX0_tasksThatAsk_13 : decode cX0_tasksThatAsk 13 = .ok (.iload_n 1, 1) := by decide +kernel
theorem dX0_tasksThatAsk_14 : decode cX0_tasksThatAsk 14 = .ok (.if_icmp .eq 19, 3) := by decide +kernel
theorem dX0_tasksThatAsk_17 : decode cX0_tasksThatAsk 17 = .ok (.aload_n 0, 1) := by decide +kernel
theorem dX0_tasksThatAsk_18 : decode cX0_tasksThatAsk 18 = .ok (.iload_n 3, 1) := by decide +kernel
theorem dX0_tasksThatAsk_19 : decode cX0_tasksThatAsk 19 = .ok (.invokevirtual 77, 3) := by decide +kernel
theorem dX0_tasksThatAsk_22 : decode cX0_tasksThatAsk 22 = .ok (.iload_n 1, 1) := by decide +kernel
theorem dX0_tasksThatAsk_23 : decode cX0_tasksThatAsk 23 = .ok (.if_icmp .ne 10, 3) := by decide +kernel
theorem dX0_tasksThatAsk_26 : decode cX0_tasksThatAsk 26 = .ok (.iload_n 2, 1) := by decide +kernel
theorem dX0_tasksThatAsk_27 : decode cX0_tasksThatAsk 27 = .ok (.iload_n 3, 1) := by decide +kernel
theorem dX0_tasksThatAsk_28 : decode cX0_tasksThatAsk 28 = .ok (.invokestatic 46, 3) := by decide +kernel
theorem dX0_tasksThatAsk_31 : decode cX0_tasksThatAsk 31 = .ok (.ior, 1) := by decide +kernel
theorem dX0_tasksThatAsk_32 : decode cX0_tasksThatAsk 32 = .ok (.istore_n 2, 1) := by decide +kernel
theorem dX0_tasksThatAsk_33 : decode cX0_tasksThatAsk 33 = .ok (.iinc 3 1, 3) := by decide +kernel
theorem dX0_tasksThatAsk_36 : decode cX0_tasksThatAsk 36 = .ok (.goto (-32), 3) := by decide +kernel
theorem dX0_tasksThatAsk_39 : decode cX0_tasksThatAsk 39 = .ok (.iload_n 2, 1) := by decide +kernel
theorem dX0_tasksThatAsk_40 : decode cX0_tasksThatAsk 40 = .ok (.ireturn, 1) := by decide +kernel
set_option maxRecDepth 20000 in
theorem ggX0_canBeLaid_X0_nextOf : GoodIn wsX0_canBeLaid wsX0_nextOf := goodIn_r _ [6, 7, 12, 13, 14, 15, 16, 17, 18, 19, 20, 21, 22, 23, 24, 25] (by decide +kernel) (by decide +kernel)
set_option maxRecDepth 20000 in
theorem gX0_canBeLaid_X0_nextOf : GoodIn wsX0_canBeLaid (wsV RX0 77 RX0 yX0_nextOf wsX0_nextOf) := goodIn_app (goodIn_of _ (by decide +kernel)) ggX0_canBeLaid_X0_nextOf
set_option maxRecDepth 20000 in
theorem ggX0_canBeLaid_X0_hasTask : GoodIn wsX0_canBeLaid wsX0_hasTask := goodIn_r _ [11, 1, 12, 13, 14, 15, 16, 17, 18, 19, 20, 21, 22, 23, 24, 25] (by decide +kernel) (by decide +kernel)
set_option maxRecDepth 20000 in
theorem gX0_canBeLaid_X0_hasTask : GoodIn wsX0_canBeLaid (wsV RX0 80 RX0 yX0_hasTask wsX0_hasTask) := goodIn_app (goodIn_of _ (by decide +kernel)) ggX0_canBeLaid_X0_hasTask
theorem dX0_canBeLaid_0 : decode cX0_canBeLaid 0 = .ok (.iconst 0, 1) := by decide +kernel
theorem dX0_canBeLaid_1 : decode cX0_canBeLaid 1 = .ok (.istore_n 1, 1) := by decide +kernel
theorem dX0_canBeLaid_2 : decode cX0_canBeLaid 2 = .ok (.iload_n 1, 1) := by decide +kernel
theorem dX0_canBeLaid_3 : decode cX0_canBeLaid 3 = .ok (.aload_n 0, 1) := by decide +kernel
theorem dX0_canBeLaid_4 : decode cX0_canBeLaid 4 = .ok (.getfield 39, 3) := by decide +kernel
theorem dX0_canBeLaid_7 : decode cX0_canBeLaid 7 = .ok (.if_icmp .ge 23, 3) := by decide +kernel
theorem dX0_canBeLaid_10 : decode cX0_canBeLaid 10 = .ok (.aload_n 0, 1) := by decide +kernel
theorem dX0_canBeLaid_11 : decode cX0_canBeLaid 11 = .ok (.aload_n 0, 1) := by decide +kernel
theorem dX0_canBeLaid_12 : decode cX0_canBeLaid 12 = .ok (.iload_n 1, 1) := by decide +kernel
theorem dX0_canBeLaid_13 : decode cX0_canBeLaid 13 = .ok (.invokevirtual 77, 3) := by decide +kernel
theorem dX0_canBeLaid_16 : decode cX0_canBeLaid 16 = .ok (.invokevirtual 80, 3) := by decide +kernel
theorem dX0_canBeLaid_19 : decode cX0_canBeLaid 19 = .ok (.ifCond .ne 5, 3) := by decide +kernel
theorem dX0_canBeLaid_22 : decode cX0_canBeLaid 22 = .ok (.iconst 0, 1) := by decide +kernel
theorem dX0_canBeLaid_23 : decode cX0_canBeLaid 23 = .ok (.ireturn, 1) := by decide +kernel
theorem dX0_canBeLaid_24 : decode cX0_canBeLaid 24 = .ok (.iinc 1 1, 3) := by decide +kernel
theorem dX0_canBeLaid_27 : decode cX0_canBeLaid 27 = .ok (.goto (-25), 3) := by decide +kernel
theorem dX0_canBeLaid_30 : decode cX0_canBeLaid 30 = .ok (.aload_n 0, 1) := by decide +kernel
theorem dX0_canBeLaid_31 : decode cX0_canBeLaid 31 = .ok (.getfield 39, 3) := by decide +kernel
theorem dX0_canBeLaid_34 : decode cX0_canBeLaid 34 = .ok (.ifCond .le 7, 3) := by decide +kernel
theorem dX0_canBeLaid_37 : decode cX0_canBeLaid 37 = .ok (.iconst 1, 1) := by decide +kernel
theorem dX0_canBeLaid_38 : decode cX0_canBeLaid 38 = .ok (.goto 4, 3) := by decide +kernel
theorem dX0_canBeLaid_41 : decode cX0_canBeLaid 41 = .ok (.iconst 0, 1) := by decide +kernel
theorem dX0_canBeLaid_42 : decode cX0_canBeLaid 42 = .ok (.ireturn, 1) := by decide +kernel
set_option maxRecDepth 20000 in
theorem ggX0_readFrom_X0_clear : GoodIn wsX0_readFrom wsX0_clear := goodIn_r _ [5, 6, 7, 8, 9, 10, 11, 12, 13, 14, 66, 67, 68, 69, 70, 71, 72, 73, 74, 75, 76, 77, 78, 79] (by decide +kernel) (by decide +kernel)
set_option maxRecDepth 20000 in
theorem gX0_readFrom_X0_clear : GoodIn wsX0_readFrom (wsV RX0 84 RX0 yX0_clear wsX0_clear) := goodIn_app (goodIn_of _ (by decide +kernel)) ggX0_readFrom_X0_clear
set_option maxRecDepth 20000 in
theorem ggX0_readFrom_X0_readItem : GoodIn wsX0_readFrom wsX0_readItem := goodIn_r _ [18, 19, 20, 21, 4, 22, 23, 24, 25, 26, 27, 28, 29, 30, 31, 32, 33, 34, 12, 13, 14, 35, 36, 37, 38, 8, 9, 10, 39, 40, 41, 42, 43, 44, 6, 45, 46, 47, 48, 49, 50, 51, 52, 53, 7, 54, 55, 11, 56, 57, 58, 59, 60, 61, 62, 63, 64, 65, 66, 67, 68, 69, 70, 71, 72, 73, 74, 75, 76, 77, 78, 79] (by decide +kernel) (by decide +kernel)
set_option maxRecDepth 20000 in
theorem gX0_readFrom_X0_readItem : GoodIn wsX0_readFrom (wsV RX0 87 RX0 yX0_readItem wsX0_readItem) := goodIn_app (goodIn_of _ (by decide +kernel)) ggX0_readFrom_X0_readItem
theorem dX0_readFrom_0 : decode cX0_readFrom 0 = .ok (.aload_n 0, 1) := by decide +kernel
theorem dX0_readFrom_1 : decode cX0_readFrom 1 = .ok (.invokevirtual 84, 3) := by decide +kernel
theorem dX0_readFrom_4 : decode cX0_readFrom 4 = .ok (.iconst 0, 1) := by decide +kernel
theorem dX0_readFrom_5 : decode cX0_readFrom 5 = .ok (.istore_n 3, 1) := by decide +kernel
theorem dX0_readFrom_6 : decode cX0_readFrom 6 = .ok (.iload_n 3, 1) := by decide +kernel
theorem dX0_readFrom_7 : decode cX0_readFrom 7 = .ok (.iload_n 2, 1) := by decide +kernel
theorem dX0_readFrom_8 : decode cX0_readFrom 8 = .ok (.if_icmp .ge 26, 3) := by decide +kernel
theorem dX0_readFrom_11 : decode cX0_readFrom 11 = .ok (.aload_n 0, 1) := by decide +kernel
theorem dX0_readFrom_12 : decode cX0_readFrom 12 = .ok (.aload_n 1, 1) := by decide +kernel
theorem dX0_readFrom_13 : decode cX0_readFrom 13 = .ok (.iload_n 2, 1) := by decide +kernel
theorem dX0_readFrom_14 : decode cX0_readFrom 14 = .ok (.iload_n 3, 1) := by decide +kernel
theorem dX0_readFrom_15 : decode cX0_readFrom 15 = .ok (.invokevirtual 87, 3) := by decide +kernel
theorem dX0_readFrom_18 : decode cX0_readFrom 18 = .ok (.istore 4, 2) := by decide +kernel
theorem dX0_readFrom_20 : decode cX0_readFrom 20 = .ok (.iload 4, 2) := by decide +kernel
theorem dX0_readFrom_22 : decode cX0_readFrom 22 = .ok (.iload_n 3, 1) := by decide +kernel
theorem dX0_readFrom_23 : decode cX0_readFrom 23 = .ok (.if_icmp .gt 5, 3) := by decide +kernel
theorem dX0_readFrom_26 : decode cX0_readFrom 26 = .ok (.iload_n 3, 1) := by decide +kernel
theorem dX0_readFrom_27 : decode cX0_readFrom 27 = .ok (.ireturn, 1) := by decide +kernel
theorem dX0_readFrom_28 : decode cX0_readFrom 28 = .ok (.iload 4, 2) := by decide +kernel
theorem dX0_readFrom_30 : decode cX0_readFrom 30 = .ok (.istore_n 3, 1) := by decide +kernel
theorem dX0_readFrom_31 : decode cX0_readFrom 31 = .ok (.goto (-25), 3) := by decide +kernel
theorem dX0_readFrom_34 : decode cX0_readFrom 34 = .ok (.bipush (-4), 2) := by decide +kernel
theorem dX0_readFrom_36 : decode cX0_readFrom 36 = .ok (.ireturn, 1) := by decide +kernel
set_option maxRecDepth 20000 in
theorem ggX0_clear_X5_setNumber : GoodIn wsX0_clear wsX5_setNumber := goodIn_r _ [9] (by decide +kernel) (by decide +kernel)
set_option maxRecDepth 20000 in
theorem gX0_clear_X5_setNumber_n100 : GoodIn wsX0_clear (wsX5_setNumber) := ggX0_clear_X5_setNumber
theorem dX0_clear_0 : decode cX0_clear 0 = .ok (.aload_n 0, 1) := by decide +kernel
theorem dX0_clear_1 : decode cX0_clear 1 = .ok (.iconst 0, 1) := by decide +kernel
theorem dX0_clear_2 : decode cX0_clear 2 = .ok (.putfield 39, 3) := by decide +kernel
theorem dX0_clear_5 : decode cX0_clear 5 = .ok (.aload_n 0, 1) := by decide +kernel
theorem dX0_clear_6 : decode cX0_clear 6 = .ok (.iconst 0, 1) := by decide +kernel
theorem dX0_clear_7 : decode cX0_clear 7 = .ok (.putfield 43, 3) := by decide +kernel
theorem dX0_clear_10 : decode cX0_clear 10 = .ok (.aload_n 0, 1) := by decide +kernel
theorem dX0_clear_11 : decode cX0_clear 11 = .ok (.iconst 0, 1) := by decide +kernel
theorem dX0_clear_12 : decode cX0_clear 12 = .ok (.putfield 91, 3) := by decide +kernel
theorem dX0_clear_15 : decode cX0_clear 15 = .ok (.aload_n 0, 1) := by decide +kernel
theorem dX0_clear_16 : decode cX0_clear 16 = .ok (.bipush 20, 2) := by decide +kernel
theorem dX0_clear_18 : decode cX0_clear 18 = .ok (.putfield 94, 3) := by decide +kernel
theorem dX0_clear_21 : decode cX0_clear 21 = .ok (.aload_n 0, 1) := by decide +kernel
theorem dX0_clear_22 : decode cX0_clear 22 = .ok (.bipush 30, 2) := by decide +kernel
theorem dX0_clear_24 : decode cX0_clear 24 = .ok (.putfield 97, 3) := by decide +kernel
theorem dX0_clear_27 : decode cX0_clear 27 = .ok (.iconst 0, 1) := by decide +kernel
theorem dX0_clear_28 : decode cX0_clear 28 = .ok (.istore_n 1, 1) := by decide +kernel
theorem dX0_clear_29 : decode cX0_clear 29 = .ok (.iload_n 1, 1) := by decide +kernel
theorem dX0_clear_30 : decode cX0_clear 30 = .ok (.iconst 5, 1) := by decide +kernel
theorem dX0_clear_31 : decode cX0_clear 31 = .ok (.if_icmp .ge 18, 3) := by decide +kernel
theorem dX0_clear_34 : decode cX0_clear 34 = .ok (.aload_n 0, 1) := by decide +kernel
theorem dX0_clear_35 : decode cX0_clear 35 = .ok (.getfield 33, 3) := by decide +kernel
theorem dX0_clear_38 : decode cX0_clear 38 = .ok (.iload_n 1, 1) := by decide +kernel
theorem dX0_clear_39 : decode cX0_clear 39 = .ok (.iconst 0, 1) := by decide +kernel
theorem dX0_clear_40 : decode cX0_clear 40 = .ok (.invokestatic 100, 3) := by decide +kernel
theorem dX0_clear_43 : decode cX0_clear 43 = .ok (.iinc 1 1, 3) := by decide +kernel
theorem dX0_clear_46 : decode cX0_clear 46 = .ok (.goto (-17), 3) := by decide +kernel
theorem dX0_clear_49 : decode cX0_clear 49 = .ok (.return_, 1) := by decide +kernel
set_option maxRecDepth 20000 in
theorem ggX0_readItem_X0_letterAt : GoodIn wsX0_readItem wsX0_letterAt := goodIn_r _ [5] (by decide +kernel) (by decide +kernel)
set_option maxRecDepth 20000 in
theorem gX0_readItem_X0_letterAt : GoodIn wsX0_readItem (va_wsS RX0 104 yX0_letterAt wsX0_letterAt) := goodIn_app (goodIn_of _ (by decide +kernel)) ggX0_readItem_X0_letterAt
set_option maxRecDepth 20000 in
theorem ggX0_readItem_X0_numbersBehind : GoodIn wsX0_readItem wsX0_numbersBehind := goodIn_r _ [8] (by decide +kernel) (by decide +kernel)
set_option maxRecDepth 20000 in
theorem gX0_readItem_X0_numbersBehind : GoodIn wsX0_readItem (va_wsS RX0 107 yX0_numbersBehind wsX0_numbersBehind) := goodIn_app (goodIn_of _ (by decide +kernel)) ggX0_readItem_X0_numbersBehind
set_option maxRecDepth 20000 in
theorem ggX0_readItem_X0_figuresAt : GoodIn wsX0_readItem wsX0_figuresAt := goodIn_r _ [11, 2, 3, 4, 5, 12, 13, 14] (by decide +kernel) (by decide +kernel)
set_option maxRecDepth 20000 in
theorem gX0_readItem_X0_figuresAt : GoodIn wsX0_readItem (va_wsS RX0 110 yX0_figuresAt wsX0_figuresAt) := goodIn_app (goodIn_of _ (by decide +kernel)) ggX0_readItem_X0_figuresAt
set_option maxRecDepth 20000 in
theorem ggX0_readItem_X0_readNumber : GoodIn wsX0_readItem wsX0_readNumber := goodIn_r _ [17, 2, 3, 4, 5] (by decide +kernel) (by decide +kernel)
set_option maxRecDepth 20000 in
theorem gX0_readItem_X0_readNumber : GoodIn wsX0_readItem (va_wsS RX0 113 yX0_readNumber wsX0_readNumber) := goodIn_app (goodIn_of _ (by decide +kernel)) ggX0_readItem_X0_readNumber
set_option maxRecDepth 20000 in
theorem ggX0_readItem_X5_setNumber : GoodIn wsX0_readItem wsX5_setNumber := goodIn_r _ [20] (by decide +kernel) (by decide +kernel)
set_option maxRecDepth 20000 in
theorem gX0_readItem_X5_setNumber_n100 : GoodIn wsX0_readItem (wsX5_setNumber) := ggX0_readItem_X5_setNumber
set_option maxRecDepth 20000 in
theorem ggX0_readItem_X0_takeItem : GoodIn wsX0_readItem wsX0_takeItem := goodIn_r _ [24, 1, 25, 26, 27, 28, 19, 29, 30, 31, 32, 4, 33, 34, 35, 36, 37, 38, 39, 18, 20, 40, 41, 42, 43, 44, 45, 46, 47, 48, 49, 50, 51, 52, 53, 54, 55, 56, 57, 58, 59, 60, 61, 62, 63, 64, 65, 66, 67, 68, 69, 70, 71] (by decide +kernel) (by decide +kernel)
set_option maxRecDepth 20000 in
theorem gX0_readItem_X0_takeItem : GoodIn wsX0_readItem (wsV RX0 117 RX0 yX0_takeItem wsX0_takeItem) := goodIn_app (goodIn_of _ (by decide +kernel)) ggX0_readItem_X0_takeItem
theorem dX0_readItem_0 : decode cX0_readItem 0 = .ok (.aload_n 1, 1) := by decide +kernel
theorem dX0_readItem_1 : decode cX0_readItem 1 = .ok (.iload_n 2, 1) := by decide +kernel
theorem dX0_readItem_2 : decode cX0_readItem 2 = .ok (.iload_n 3, 1) := by decide +kernel
theorem dX0_readItem_3 : decode cX0_readItem 3 = .ok (.invokestatic 104, 3) := by decide +kernel
theorem dX0_readItem_6 : decode cX0_readItem 6 = .ok (.istore 4, 2) := by decide +kernel
theorem dX0_readItem_8 : decode cX0_readItem 8 = .ok (.iload 4, 2) := by decide +kernel
theorem dX0_readItem_10 : decode cX0_readItem 10 = .ok (.invokestatic 107, 3) := by decide +kernel
theorem dX0_readItem_13 : decode cX0_readItem 13 = .ok (.istore 5, 2) := by decide +kernel
theorem dX0_readItem_15 : decode cX0_readItem 15 = .ok (.iload_n 3, 1) := by decide +kernel
theorem dX0_readItem_16 : decode cX0_readItem 16 = .ok (.iconst 1, 1) := by decide +kernel
theorem dX0_readItem_17 : decode cX0_readItem 17 = .ok (.iadd, 1) := by decide +kernel
theorem dX0_readItem_18 : decode cX0_readItem 18 = .ok (.istore 6, 2) := by decide +kernel
theorem dX0_readItem_20 : decode cX0_readItem 20 = .ok (.iconst 0, 1) := by decide +kernel
theorem dX0_readItem_21 : decode cX0_readItem 21 = .ok (.istore 7, 2) := by decide +kernel
theorem dX0_readItem_23 : decode cX0_readItem 23 = .ok (.iload 7, 2) := by decide +kernel
theorem dX0_readItem_25 : decode cX0_readItem 25 = .ok (.iload 5, 2) := by decide +kernel
theorem dX0_readItem_27 : decode cX0_readItem 27 = .ok (.if_icmp .ge 84, 3) := by decide +kernel
theorem dX0_readItem_30 : decode cX0_readItem 30 = .ok (.aload_n 1, 1) := by decide +kernel
theorem dX0_readItem_31 : decode cX0_readItem 31 = .ok (.iload_n 2, 1) := by decide +kernel
theorem dX0_readItem_32 : decode cX0_readItem 32 = .ok (.iload 6, 2) := by decide +kernel
theorem dX0_readItem_34 : decode cX0_readItem 34 = .ok (.invokestatic 110, 3) := by decide +kernel
theorem dX0_readItem_37 : decode cX0_readItem 37 = .ok (.istore 8, 2) := by decide +kernel
theorem dX0_readItem_39 : decode cX0_readItem 39 = .ok (.iload 8, 2) := by decide +kernel
theorem dX0_readItem_41 : decode cX0_readItem 41 = .ok (.iconst 1, 1) := by decide +kernel
theorem dX0_readItem_42 : decode cX0_readItem 42 = .ok (.if_icmp .ge 6, 3) := by decide +kernel
theorem dX0_readItem_45 : decode cX0_readItem 45 = .ok (.bipush (-2), 2) := by decide +kernel
theorem dX0_readItem_47 : decode cX0_readItem 47 = .ok (.ireturn, 1) := by decide +kernel
theorem dX0_readItem_48 : decode cX0_readItem 48 = .ok (.aload_n 0, 1) := by decide +kernel
theorem dX0_readItem_49 : decode cX0_readItem 49 = .ok (.getfield 36, 3) := by decide +kernel
theorem dX0_readItem_52 : decode cX0_readItem 52 = .ok (.iload 7, 2) := by decide +kernel
theorem dX0_readItem_54 : decode cX0_readItem 54 = .ok (.aload_n 1, 1) := by decide +kernel
theorem dX0_readItem_55 : decode cX0_readItem 55 = .ok (.iload_n 2, 1) := by decide +kernel
theorem dX0_readItem_56 : decode cX0_readItem 56 = .ok (.iload 6, 2) := by decide +kernel
theorem dX0_readItem_58 : decode cX0_readItem 58 = .ok (.iload 8, 2) := by decide +kernel
theorem dX0_readItem_60 : decode cX0_readItem 60 = .ok (.invokestatic 113, 3) := by decide +kernel
theorem dX0_readItem_63 : decode cX0_readItem 63 = .ok (.invokestatic 100, 3) := by decide +kernel
theorem dX0_readItem_66 : decode cX0_readItem 66 = .ok (.iload 6, 2) := by decide +kernel
theorem dX0_readItem_68 : decode cX0_readItem 68 = .ok (.iload 8, 2) := by decide +kernel
theorem dX0_readItem_70 : decode cX0_readItem 70 = .ok (.iadd, 1) := by decide +kernel
theorem dX0_readItem_71 : decode cX0_readItem 71 = .ok (.istore 6, 2) := by decide +kernel
theorem dX0_readItem_73 : decode cX0_readItem 73 = .ok (.aload_n 1, 1) := by decide +kernel
theorem dX0_readItem_74 : decode cX0_readItem 74 = .ok (.iload_n 2, 1) := by decide +kernel
theorem dX0_readItem_75 : decode cX0_readItem 75 = .ok (.iload 6, 2) := by decide +kernel
theorem dX0_readItem_77 : decode cX0_readItem 77 = .ok (.invokestatic 104, 3) := by decide +kernel
theorem dX0_readItem_80 : decode cX0_readItem 80 = .ok (.iload 7, 2) := by decide +kernel
theorem dX0_readItem_82 : decode cX0_readItem 82 = .ok (.iconst 1, 1) := by decide +kernel
theorem dX0_readItem_83 : decode cX0_readItem 83 = .ok (.iadd, 1) := by decide +kernel
theorem dX0_readItem_84 : decode cX0_readItem 84 = .ok (.iload 5, 2) := by decide +kernel
theorem dX0_readItem_86 : decode cX0_readItem 86 = .ok (.if_icmp .ge 8, 3) := by decide +kernel
theorem dX0_readItem_89 : decode cX0_readItem 89 = .ok (.bipush 44, 2) := by decide +kernel
theorem dX0_readItem_91 : decode cX0_readItem 91 = .ok (.goto 5, 3) := by decide +kernel
theorem dX0_readItem_94 : decode cX0_readItem 94 = .ok (.bipush 59, 2) := by decide +kernel
theorem dX0_readItem_96 : decode cX0_readItem 96 = .ok (.if_icmp .eq 6, 3) := by decide +kernel
theorem dX0_readItem_99 : decode cX0_readItem 99 = .ok (.bipush (-2), 2) := by decide +kernel
theorem dX0_readItem_101 : decode cX0_readItem 101 = .ok (.ireturn, 1) := by decide +kernel
theorem dX0_readItem_102 : decode cX0_readItem 102 = .ok (.iinc 6 1, 3) := by decide +kernel
theorem dX0_readItem_105 : decode cX0_readItem 105 = .ok (.iinc 7 1, 3) := by decide +kernel
theorem dX0_readItem_108 : decode cX0_readItem 108 = .ok (.goto (-85), 3) := by decide +kernel
theorem dX0_readItem_111 : decode cX0_readItem 111 = .ok (.aload_n 0, 1) := by decide +kernel
theorem dX0_readItem_112 : decode cX0_readItem 112 = .ok (.iload 4, 2) := by decide +kernel
theorem dX0_readItem_114 : decode cX0_readItem 114 = .ok (.invokevirtual 117, 3) := by decide +kernel
theorem dX0_readItem_117 : decode cX0_readItem 117 = .ok (.ifCond .eq 8, 3) := by decide +kernel
theorem dX0_readItem_120 : decode cX0_readItem 120 = .ok (.iload 6, 2) := by decide +kernel
theorem dX0_readItem_122 : decode cX0_readItem 122 = .ok (.goto 5, 3) := by decide +kernel
theorem dX0_readItem_125 : decode cX0_readItem 125 = .ok (.bipush (-2), 2) := by decide +kernel
theorem dX0_readItem_127 : decode cX0_readItem 127 = .ok (.ireturn, 1) := by decide +kernel
theorem dX0_letterAt_0 : decode cX0_letterAt 0 = .ok (.iload_n 2, 1) := by decide +kernel
theorem dX0_letterAt_1 : decode cX0_letterAt 1 = .ok (.ifCond .lt 20, 3) := by decide +kernel
theorem dX0_letterAt_4 : decode cX0_letterAt 4 = .ok (.iload_n 2, 1) := by decide +kernel
theorem dX0_letterAt_5 : decode cX0_letterAt 5 = .ok (.iload_n 1, 1) := by decide +kernel
theorem dX0_letterAt_6 : decode cX0_letterAt 6 = .ok (.if_icmp .ge 15, 3) := by decide +kernel
theorem dX0_letterAt_9 : decode cX0_letterAt 9 = .ok (.iload_n 2, 1) := by decide +kernel
theorem dX0_letterAt_10 : decode cX0_letterAt 10 = .ok (.aload_n 0, 1) := by decide +kernel
theorem dX0_letterAt_11 : decode cX0_letterAt 11 = .ok (.arraylength, 1) := by decide +kernel
theorem dX0_letterAt_12 : decode cX0_letterAt 12 = .ok (.if_icmp .ge 9, 3) := by decide +kernel
theorem dX0_letterAt_15 : decode cX0_letterAt 15 = .ok (.aload_n 0, 1) := by decide +kernel
theorem dX0_letterAt_16 : decode cX0_letterAt 16 = .ok (.iload_n 2, 1) := by decide +kernel
theorem dX0_letterAt_17 : decode cX0_letterAt 17 = .ok (.caload, 1) := by decide +kernel
theorem dX0_letterAt_18 : decode cX0_letterAt 18 = .ok (.goto 5, 3) := by decide +kernel
theorem dX0_letterAt_21 : decode cX0_letterAt 21 = .ok (.bipush (-4), 2) := by decide +kernel
theorem dX0_letterAt_23 : decode cX0_letterAt 23 = .ok (.ireturn, 1) := by decide +kernel
theorem dX0_numbersBehind_0 : decode cX0_numbersBehind 0 = .ok (.iload_n 0, 1) := by decide +kernel
theorem dX0_numbersBehind_1 : decode cX0_numbersBehind 1 = .ok (.lookupswitch 57 #[(97, 55), (99, 55), (104, 53), (108, 55), (116, 51)], 51) := by decide +kernel
theorem dX0_numbersBehind_52 : decode cX0_numbersBehind 52 = .ok (.iconst 4, 1) := by decide +kernel
theorem dX0_numbersBehind_53 : decode cX0_numbersBehind 53 = .ok (.ireturn, 1) := by decide +kernel
theorem dX0_numbersBehind_54 : decode cX0_numbersBehind 54 = .ok (.iconst 2, 1) := by decide +kernel
theorem dX0_numbersBehind_55 : decode cX0_numbersBehind 55 = .ok (.ireturn, 1) := by decide +kernel
theorem dX0_numbersBehind_56 : decode cX0_numbersBehind 56 = .ok (.iconst 1, 1) := by decide +kernel
theorem dX0_numbersBehind_57 : decode cX0_numbersBehind 57 = .ok (.ireturn, 1) := by decide +kernel
theorem dX0_numbersBehind_58 : decode cX0_numbersBehind 58 = .ok (.iconst 0, 1) := by decide +kernel
theorem dX0_numbersBehind_59 : decode cX0_numbersBehind 59 = .ok (.ireturn, 1) := by decide +kernel
theorem dX0_isFigure_0 : decode cX0_isFigure 0 = .ok (.iload_n 0, 1) := by decide +kernel
theorem dX0_isFigure_1 : decode cX0_isFigure 1 = .ok (.bipush 48, 2) := by decide +kernel
theorem dX0_isFigure_3 : decode cX0_isFigure 3 = .ok (.if_icmp .lt 13, 3) := by decide +kernel
theorem dX0_isFigure_6 : decode cX0_isFigure 6 = .ok (.iload_n 0, 1) := by decide +kernel
theorem dX0_isFigure_7 : decode cX0_isFigure 7 = .ok (.bipush 57, 2) := by decide +kernel
theorem dX0_isFigure_9 : decode cX0_isFigure 9 = .ok (.if_icmp .gt 7, 3) := by decide +kernel
theorem dX0_isFigure_12 : decode cX0_isFigure 12 = .ok (.iconst 1, 1) := by decide +kernel
theorem dX0_isFigure_13 : decode cX0_isFigure 13 = .ok (.goto 4, 3) := by decide +kernel
theorem dX0_isFigure_16 : decode cX0_isFigure 16 = .ok (.iconst 0, 1) := by decide +kernel
theorem dX0_isFigure_17 : decode cX0_isFigure 17 = .ok (.ireturn, 1) := by decide +kernel
set_option maxRecDepth 20000 in
theorem ggX0_figuresAt_X0_letterAt : GoodIn wsX0_figuresAt wsX0_letterAt := goodIn_r _ [4] (by decide +kernel) (by decide +kernel)
set_option maxRecDepth 20000 in
theorem gX0_figuresAt_X0_letterAt : GoodIn wsX0_figuresAt (va_wsS RX0 104 yX0_letterAt wsX0_letterAt) := goodIn_app (goodIn_of _ (by decide +kernel)) ggX0_figuresAt_X0_letterAt
set_option maxRecDepth 20000 in
theorem ggX0_figuresAt_X0_isFigure : GoodIn wsX0_figuresAt wsX0_isFigure := goodIn_r _ [7] (by decide +kernel) (by decide +kernel)
set_option maxRecDepth 20000 in
theorem gX0_figuresAt_X0_isFigure : GoodIn wsX0_figuresAt (va_wsS RX0 120 yX0_isFigure wsX0_isFigure) := goodIn_app (goodIn_of _ (by decide +kernel)) ggX0_figuresAt_X0_isFigure
theorem dX0_figuresAt_0 : decode cX0_figuresAt 0 = .ok (.aload_n 0, 1) := by decide +kernel
theorem dX0_figuresAt_1 : decode cX0_figuresAt 1 = .ok (.iload_n 1, 1) := by decide +kernel
theorem dX0_figuresAt_2 : decode cX0_figuresAt 2 = .ok (.iload_n 2, 1) := by decide +kernel
theorem dX0_figuresAt_3 : decode cX0_figuresAt 3 = .ok (.invokestatic 104, 3) := by decide +kernel
theorem dX0_figuresAt_6 : decode cX0_figuresAt 6 = .ok (.invokestatic 120, 3) := by decide +kernel
theorem dX0_figuresAt_9 : decode cX0_figuresAt 9 = .ok (.ifCond .ne 5, 3) := by decide +kernel
theorem dX0_figuresAt_12 : decode cX0_figuresAt 12 = .ok (.iconst 0, 1) := by decide +kernel
theorem dX0_figuresAt_13 : decode cX0_figuresAt 13 = .ok (.ireturn, 1) := by decide +kernel
theorem dX0_figuresAt_14 : decode cX0_figuresAt 14 = .ok (.aload_n 0, 1) := by decide +kernel
theorem dX0_figuresAt_15 : decode cX0_figuresAt 15 = .ok (.iload_n 1, 1) := by decide +kernel
theorem dX0_figuresAt_16 : decode cX0_figuresAt 16 = .ok (.iload_n 2, 1) := by decide +kernel
theorem dX0_figuresAt_17 : decode cX0_figuresAt 17 = .ok (.iconst 1, 1) := by decide +kernel
theorem dX0_figuresAt_18 : decode cX0_figuresAt 18 = .ok (.iadd, 1) := by decide +kernel
theorem dX0_figuresAt_19 : decode cX0_figuresAt 19 = .ok (.invokestatic 104, 3) := by decide +kernel
theorem dX0_figuresAt_22 : decode cX0_figuresAt 22 = .ok (.invokestatic 120, 3) := by decide +kernel
theorem dX0_figuresAt_25 : decode cX0_figuresAt 25 = .ok (.ifCond .eq 7, 3) := by decide +kernel
theorem dX0_figuresAt_28 : decode cX0_figuresAt 28 = .ok (.iconst 2, 1) := by decide +kernel
theorem dX0_figuresAt_29 : decode cX0_figuresAt 29 = .ok (.goto 4, 3) := by decide +kernel
theorem dX0_figuresAt_32 : decode cX0_figuresAt 32 = .ok (.iconst 1, 1) := by decide +kernel
theorem dX0_figuresAt_33 : decode cX0_figuresAt 33 = .ok (.ireturn, 1) := by decide +kernel
set_option maxRecDepth 20000 in
theorem ggX0_readNumber_X0_letterAt : GoodIn wsX0_readNumber wsX0_letterAt := goodIn_r _ [4] (by decide +kernel) (by decide +kernel)
set_option maxRecDepth 20000 in
theorem gX0_readNumber_X0_letterAt : GoodIn wsX0_readNumber (va_wsS RX0 104 yX0_letterAt wsX0_letterAt) := goodIn_app (goodIn_of _ (by decide +kernel)) ggX0_readNumber_X0_letterAt
theorem dX0_readNumber_0 : decode cX0_readNumber 0 = .ok (.aload_n 0, 1) := by decide +kernel
theorem dX0_readNumber_1 : decode cX0_readNumber 1 = .ok (.iload_n 1, 1) := by decide +kernel
theorem dX0_readNumber_2 : decode cX0_readNumber 2 = .ok (.iload_n 2, 1) := by decide +kernel
theorem dX0_readNumber_3 : decode cX0_readNumber 3 = .ok (.invokestatic 104, 3) := by decide +kernel
theorem dX0_readNumber_6 : decode cX0_readNumber 6 = .ok (.bipush 48, 2) := by decide +kernel
theorem dX0_readNumber_8 : decode cX0_readNumber 8 = .ok (.isub, 1) := by decide +kernel
theorem dX0_readNumber_9 : decode cX0_readNumber 9 = .ok (.istore 4, 2) := by decide +kernel
theorem dX0_readNumber_11 : decode cX0_readNumber 11 = .ok (.iload_n 3, 1) := by decide +kernel
theorem dX0_readNumber_12 : decode cX0_readNumber 12 = .ok (.iconst 1, 1) := by decide +kernel
theorem dX0_readNumber_13 : decode cX0_readNumber 13 = .ok (.if_icmp .ne 8, 3) := by decide +kernel
theorem dX0_readNumber_16 : decode cX0_readNumber 16 = .ok (.iload 4, 2) := by decide +kernel
theorem dX0_readNumber_18 : decode cX0_readNumber 18 = .ok (.goto 20, 3) := by decide +kernel
theorem dX0_readNumber_21 : decode cX0_readNumber 21 = .ok (.iload 4, 2) := by decide +kernel
theorem dX0_readNumber_23 : decode cX0_readNumber 23 = .ok (.bipush 10, 2) := by decide +kernel
theorem dX0_readNumber_25 : decode cX0_readNumber 25 = .ok (.imul, 1) := by decide +kernel
theorem dX0_readNumber_26 : decode cX0_readNumber 26 = .ok (.aload_n 0, 1) := by decide +kernel
theorem dX0_readNumber_27 : decode cX0_readNumber 27 = .ok (.iload_n 1, 1) := by decide +kernel
theorem dX0_readNumber_28 : decode cX0_readNumber 28 = .ok (.iload_n 2, 1) := by decide +kernel
theorem dX0_readNumber_29 : decode cX0_readNumber 29 = .ok (.iconst 1, 1) := by decide +kernel
theorem dX0_readNumber_30 : decode cX0_readNumber 30 = .ok (.iadd, 1) := by decide +kernel
theorem dX0_readNumber_31 : decode cX0_readNumber 31 = .ok (.invokestatic 104, 3) := by decide +kernel
theorem dX0_readNumber_34 : decode cX0_readNumber 34 = .ok (.iadd, 1) := by decide +kernel
theorem dX0_readNumber_35 : decode cX0_readNumber 35 = .ok (.bipush 48, 2) := by decide +kernel
theorem dX0_readNumber_37 : decode cX0_readNumber 37 = .ok (.isub, 1) := by decide +kernel
theorem dX0_readNumber_38 : decode cX0_readNumber 38 = .ok (.ireturn, 1) := by decide +kernel
set_option maxRecDepth 20000 in
theorem ggX0_takeItem_X5_numberAt : GoodIn wsX0_takeItem wsX5_numberAt := goodIn_r _ [7] (by decide +kernel) (by decide +kernel)
set_option maxRecDepth 20000 in
theorem gX0_takeItem_X5_numberAt_n123 : GoodIn wsX0_takeItem (wsX5_numberAt) := ggX0_takeItem_X5_numberAt
set_option maxRecDepth 20000 in
theorem ggX0_takeItem_X0_takeTask : GoodIn wsX0_takeItem wsX0_takeTask := goodIn_r _ [12, 1, 13, 14, 15, 16, 17, 18, 5, 6, 7, 19, 20, 39, 40, 41, 42, 43, 44, 45, 46, 47, 48, 49, 50, 51, 52] (by decide +kernel) (by decide +kernel)
set_option maxRecDepth 20000 in
theorem gX0_takeItem_X0_takeTask : GoodIn wsX0_takeItem (wsV RX0 127 RX0 yX0_takeTask wsX0_takeTask) := goodIn_app (goodIn_of _ (by decide +kernel)) ggX0_takeItem_X0_takeTask
set_option maxRecDepth 20000 in
theorem ggX0_takeItem_X0_takeHelper : GoodIn wsX0_takeItem wsX0_takeHelper := goodIn_r _ [24, 1, 25, 26, 27, 28, 5, 6, 7, 19, 20, 29, 30, 31, 11, 32, 33, 34, 39, 40, 41, 42, 43, 44, 45, 46, 47, 48, 49, 50, 51, 52] (by decide +kernel) (by decide +kernel)
set_option maxRecDepth 20000 in
theorem gX0_takeItem_X0_takeHelper : GoodIn wsX0_takeItem (wsV RX0 131 RX0 yX0_takeHelper wsX0_takeHelper) := goodIn_app (goodIn_of _ (by decide +kernel)) ggX0_takeItem_X0_takeHelper
set_option maxRecDepth 20000 in
theorem ggX0_takeItem_X0_hasTask : GoodIn wsX0_takeItem wsX0_hasTask := goodIn_r _ [38, 13, 39, 40, 41, 42, 43, 44, 45, 46, 47, 48, 49, 50, 51, 52] (by decide +kernel) (by decide +kernel)
set_option maxRecDepth 20000 in
theorem gX0_takeItem_X0_hasTask : GoodIn wsX0_takeItem (wsV RX0 80 RX0 yX0_hasTask wsX0_hasTask) := goodIn_app (goodIn_of _ (by decide +kernel)) ggX0_takeItem_X0_hasTask
set_option maxRecDepth 20000 in
theorem ggX0_takeItem_X5_bit : GoodIn wsX0_takeItem wsX5_bit := goodIn_r _ [34] (by decide +kernel) (by decide +kernel)
set_option maxRecDepth 20000 in
theorem gX0_takeItem_X5_bit_n46 : GoodIn wsX0_takeItem (wsX5_bit) := ggX0_takeItem_X5_bit
theorem dX0_takeItem_0 : decode cX0_takeItem 0 = .ok (.aload_n 0, 1) := by decide +kernel
theorem dX0_takeItem_1 : decode cX0_takeItem 1 = .ok (.getfield 36, 3) := by decide +kernel
theorem dX0_takeItem_4 : decode cX0_takeItem 4 = .ok (.iconst 0, 1) := by decide +kernel
theorem dX0_takeItem_5 : decode cX0_takeItem 5 = .ok (.invokestatic 123, 3) := by decide +kernel
theorem dX0_takeItem_8 : decode cX0_takeItem 8 = .ok (.istore_n 2, 1) := by decide +kernel
theorem dX0_takeItem_9 : decode cX0_takeItem 9 = .ok (.iload_n 1, 1) := by decide +kernel
theorem dX0_takeItem_10 : decode cX0_takeItem 10 = .ok (.lookupswitch 124 #[(97, 60), (99, 85), (104, 55), (108, 102), (116, 50)], 50) := by decide +kernel
theorem dX0_takeItem_60 : decode cX0_takeItem 60 = .ok (.aload_n 0, 1) := by decide +kernel
theorem dX0_takeItem_61 : decode cX0_takeItem 61 = .ok (.invokevirtual 127, 3) := by decide +kernel
theorem dX0_takeItem_64 : decode cX0_takeItem 64 = .ok (.ireturn, 1) := by decide +kernel
theorem dX0_takeItem_65 : decode cX0_takeItem 65 = .ok (.aload_n 0, 1) := by decide +kernel
theorem dX0_takeItem_66 : decode cX0_takeItem 66 = .ok (.invokevirtual 131, 3) := by decide +kernel
theorem dX0_takeItem_69 : decode cX0_takeItem 69 = .ok (.ireturn, 1) := by decide +kernel
theorem dX0_takeItem_70 : decode cX0_takeItem 70 = .ok (.aload_n 0, 1) := by decide +kernel
theorem dX0_takeItem_71 : decode cX0_takeItem 71 = .ok (.iload_n 2, 1) := by decide +kernel
theorem dX0_takeItem_72 : decode cX0_takeItem 72 = .ok (.invokevirtual 80, 3) := by decide +kernel
theorem dX0_takeItem_75 : decode cX0_takeItem 75 = .ok (.ifCond .ne 5, 3) := by decide +kernel
theorem dX0_takeItem_78 : decode cX0_takeItem 78 = .ok (.iconst 0, 1) := by decide +kernel
theorem dX0_takeItem_79 : decode cX0_takeItem 79 = .ok (.ireturn, 1) := by decide +kernel
theorem dX0_takeItem_80 : decode cX0_takeItem 80 = .ok (.aload_n 0, 1) := by decide +kernel
theorem dX0_takeItem_81 : decode cX0_takeItem 81 = .ok (.dup, 1) := by decide +kernel
theorem dX0_takeItem_82 : decode cX0_takeItem 82 = .ok (.getfield 91, 3) := by decide +kernel
theorem dX0_takeItem_85 : decode cX0_takeItem 85 = .ok (.iload_n 2, 1) := by decide +kernel
theorem dX0_takeItem_86 : decode cX0_takeItem 86 = .ok (.invokestatic 46, 3) := by decide +kernel
theorem dX0_takeItem_89 : decode cX0_takeItem 89 = .ok (.ior, 1) := by decide +kernel
theorem dX0_takeItem_90 : decode cX0_takeItem 90 = .ok (.putfield 91, 3) := by decide +kernel
theorem dX0_takeItem_93 : decode cX0_takeItem 93 = .ok (.iconst 1, 1) := by decide +kernel
theorem dX0_takeItem_94 : decode cX0_takeItem 94 = .ok (.ireturn, 1) := by decide +kernel
theorem dX0_takeItem_95 : decode cX0_takeItem 95 = .ok (.aload_n 0, 1) := by decide +kernel
theorem dX0_takeItem_96 : decode cX0_takeItem 96 = .ok (.iload_n 2, 1) := by decide +kernel
theorem dX0_takeItem_97 : decode cX0_takeItem 97 = .ok (.putfield 94, 3) := by decide +kernel
theorem dX0_takeItem_100 : decode cX0_takeItem 100 = .ok (.iload_n 2, 1) := by decide +kernel
theorem dX0_takeItem_101 : decode cX0_takeItem 101 = .ok (.bipush 99, 2) := by decide +kernel
theorem dX0_takeItem_103 : decode cX0_takeItem 103 = .ok (.if_icmp .gt 7, 3) := by decide +kernel
theorem dX0_takeItem_106 : decode cX0_takeItem 106 = .ok (.iconst 1, 1) := by decide +kernel
theorem dX0_takeItem_107 : decode cX0_takeItem 107 = .ok (.goto 4, 3) := by decide +kernel
theorem dX0_takeItem_110 : decode cX0_takeItem 110 = .ok (.iconst 0, 1) := by decide +kernel
theorem dX0_takeItem_111 : decode cX0_takeItem 111 = .ok (.ireturn, 1) := by decide +kernel
theorem dX0_takeItem_112 : decode cX0_takeItem 112 = .ok (.aload_n 0, 1) := by decide +kernel
theorem dX0_takeItem_113 : decode cX0_takeItem 113 = .ok (.iload_n 2, 1) := by decide +kernel
theorem dX0_takeItem_114 : decode cX0_takeItem 114 = .ok (.putfield 97, 3) := by decide +kernel
theorem dX0_takeItem_117 : decode cX0_takeItem 117 = .ok (.iload_n 2, 1) := by decide +kernel
theorem dX0_takeItem_118 : decode cX0_takeItem 118 = .ok (.iconst 1, 1) := by decide +kernel
theorem dX0_takeItem_119 : decode cX0_takeItem 119 = .ok (.if_icmp .lt 13, 3) := by decide +kernel
theorem dX0_takeItem_122 : decode cX0_takeItem 122 = .ok (.iload_n 2, 1) := by decide +kernel
theorem dX0_takeItem_123 : decode cX0_takeItem 123 = .ok (.bipush 60, 2) := by decide +kernel
theorem dX0_takeItem_125 : decode cX0_takeItem 125 = .ok (.if_icmp .gt 7, 3) := by decide +kernel
theorem dX0_takeItem_128 : decode cX0_takeItem 128 = .ok (.iconst 1, 1) := by decide +kernel
theorem dX0_takeItem_129 : decode cX0_takeItem 129 = .ok (.goto 4, 3) := by decide +kernel
theorem dX0_takeItem_132 : decode cX0_takeItem 132 = .ok (.iconst 0, 1) := by decide +kernel
theorem dX0_takeItem_133 : decode cX0_takeItem 133 = .ok (.ireturn, 1) := by decide +kernel
theorem dX0_takeItem_134 : decode cX0_takeItem 134 = .ok (.iconst 0, 1) := by decide +kernel
theorem dX0_takeItem_135 : decode cX0_takeItem 135 = .ok (.ireturn, 1) := by decide +kernel
set_option maxRecDepth 20000 in
theorem ggX0_takeTask_X5_numberAt : GoodIn wsX0_takeTask wsX5_numberAt := goodIn_r _ [10] (by decide +kernel) (by decide +kernel)
set_option maxRecDepth 20000 in
theorem gX0_takeTask_X5_numberAt_n123 : GoodIn wsX0_takeTask (wsX5_numberAt) := ggX0_takeTask_X5_numberAt
set_option maxRecDepth 20000 in
theorem ggX0_takeTask_X5_setNumber : GoodIn wsX0_takeTask wsX5_setNumber := goodIn_r _ [12] (by decide +kernel) (by decide +kernel)
set_option maxRecDepth 20000 in
theorem gX0_takeTask_X5_setNumber_n100 : GoodIn wsX0_takeTask (wsX5_setNumber) := ggX0_takeTask_X5_setNumber
theorem dX0_takeTask_0 : decode cX0_takeTask 0 = .ok (.aload_n 0, 1) := by decide +kernel
theorem dX0_takeTask_1 : decode cX0_takeTask 1 = .ok (.getfield 36, 3) := by decide +kernel
theorem dX0_takeTask_4 : decode cX0_takeTask 4 = .ok (.iconst 0, 1) := by decide +kernel
theorem dX0_takeTask_5 : decode cX0_takeTask 5 = .ok (.invokestatic 123, 3) := by decide +kernel
theorem dX0_takeTask_8 : decode cX0_takeTask 8 = .ok (.istore_n 1, 1) := by decide +kernel
theorem dX0_takeTask_9 : decode cX0_takeTask 9 = .ok (.aload_n 0, 1) := by decide +kernel
theorem dX0_takeTask_10 : decode cX0_takeTask 10 = .ok (.getfield 36, 3) := by decide +kernel
theorem dX0_takeTask_13 : decode cX0_takeTask 13 = .ok (.iconst 1, 1) := by decide +kernel
theorem dX0_takeTask_14 : decode cX0_takeTask 14 = .ok (.invokestatic 123, 3) := by decide +kernel
theorem dX0_takeTask_17 : decode cX0_takeTask 17 = .ok (.istore_n 2, 1) := by decide +kernel
theorem dX0_takeTask_18 : decode cX0_takeTask 18 = .ok (.aload_n 0, 1) := by decide +kernel
theorem dX0_takeTask_19 : decode cX0_takeTask 19 = .ok (.getfield 36, 3) := by decide +kernel
theorem dX0_takeTask_22 : decode cX0_takeTask 22 = .ok (.iconst 2, 1) := by decide +kernel
theorem dX0_takeTask_23 : decode cX0_takeTask 23 = .ok (.invokestatic 123, 3) := by decide +kernel
theorem dX0_takeTask_26 : decode cX0_takeTask 26 = .ok (.istore_n 3, 1) := by decide +kernel
theorem dX0_takeTask_27 : decode cX0_takeTask 27 = .ok (.aload_n 0, 1) := by decide +kernel
theorem dX0_takeTask_28 : decode cX0_takeTask 28 = .ok (.getfield 36, 3) := by decide +kernel
theorem dX0_takeTask_31 : decode cX0_takeTask 31 = .ok (.iconst 3, 1) := by decide +kernel
theorem dX0_takeTask_32 : decode cX0_takeTask 32 = .ok (.invokestatic 123, 3) := by decide +kernel
theorem dX0_takeTask_35 : decode cX0_takeTask 35 = .ok (.istore 4, 2) := by decide +kernel
theorem dX0_takeTask_37 : decode cX0_takeTask 37 = .ok (.aload_n 0, 1) := by decide +kernel
theorem dX0_takeTask_38 : decode cX0_takeTask 38 = .ok (.getfield 39, 3) := by decide +kernel
theorem dX0_takeTask_41 : decode cX0_takeTask 41 = .ok (.bipush 8, 2) := by decide +kernel
theorem dX0_takeTask_43 : decode cX0_takeTask 43 = .ok (.if_icmp .ge 26, 3) := by decide +kernel
theorem dX0_takeTask_46 : decode cX0_takeTask 46 = .ok (.iload_n 1, 1) := by decide +kernel
theorem dX0_takeTask_47 : decode cX0_takeTask 47 = .ok (.iconst 4, 1) := by decide +kernel
theorem dX0_takeTask_48 : decode cX0_takeTask 48 = .ok (.if_icmp .gt 21, 3) := by decide +kernel
theorem dX0_takeTask_51 : decode cX0_takeTask 51 = .ok (.iload_n 2, 1) := by decide +kernel
theorem dX0_takeTask_52 : decode cX0_takeTask 52 = .ok (.bipush 9, 2) := by decide +kernel
theorem dX0_takeTask_54 : decode cX0_takeTask 54 = .ok (.if_icmp .gt 15, 3) := by decide +kernel
theorem dX0_takeTask_57 : decode cX0_takeTask 57 = .ok (.iload_n 3, 1) := by decide +kernel
theorem dX0_takeTask_58 : decode cX0_takeTask 58 = .ok (.iconst 5, 1) := by decide +kernel
theorem dX0_takeTask_59 : decode cX0_takeTask 59 = .ok (.if_icmp .gt 10, 3) := by decide +kernel
theorem dX0_takeTask_62 : decode cX0_takeTask 62 = .ok (.iload 4, 2) := by decide +kernel
theorem dX0_takeTask_64 : decode cX0_takeTask 64 = .ok (.bipush 7, 2) := by decide +kernel
theorem dX0_takeTask_66 : decode cX0_takeTask 66 = .ok (.if_icmp .le 5, 3) := by decide +kernel
theorem dX0_takeTask_69 : decode cX0_takeTask 69 = .ok (.iconst 0, 1) := by decide +kernel
theorem dX0_takeTask_70 : decode cX0_takeTask 70 = .ok (.ireturn, 1) := by decide +kernel
theorem dX0_takeTask_71 : decode cX0_takeTask 71 = .ok (.aload_n 0, 1) := by decide +kernel
theorem dX0_takeTask_72 : decode cX0_takeTask 72 = .ok (.getfield 9, 3) := by decide +kernel
theorem dX0_takeTask_75 : decode cX0_takeTask 75 = .ok (.aload_n 0, 1) := by decide +kernel
theorem dX0_takeTask_76 : decode cX0_takeTask 76 = .ok (.getfield 39, 3) := by decide +kernel
theorem dX0_takeTask_79 : decode cX0_takeTask 79 = .ok (.iload_n 1, 1) := by decide +kernel
theorem dX0_takeTask_80 : decode cX0_takeTask 80 = .ok (.invokestatic 100, 3) := by decide +kernel
theorem dX0_takeTask_83 : decode cX0_takeTask 83 = .ok (.aload_n 0, 1) := by decide +kernel
theorem dX0_takeTask_84 : decode cX0_takeTask 84 = .ok (.getfield 15, 3) := by decide +kernel
theorem dX0_takeTask_87 : decode cX0_takeTask 87 = .ok (.aload_n 0, 1) := by decide +kernel
theorem dX0_takeTask_88 : decode cX0_takeTask 88 = .ok (.getfield 39, 3) := by decide +kernel
theorem dX0_takeTask_91 : decode cX0_takeTask 91 = .ok (.iload_n 2, 1) := by decide +kernel
theorem dX0_takeTask_92 : decode cX0_takeTask 92 = .ok (.invokestatic 100, 3) := by decide +kernel
theorem dX0_takeTask_95 : decode cX0_takeTask 95 = .ok (.aload_n 0, 1) := by decide +kernel
theorem dX0_takeTask_96 : decode cX0_takeTask 96 = .ok (.getfield 18, 3) := by decide +kernel
theorem dX0_takeTask_99 : decode cX0_takeTask 99 = .ok (.aload_n 0, 1) := by decide +kernel
theorem dX0_takeTask_100 : decode cX0_takeTask 100 = .ok (.getfield 39, 3) := by decide +kernel
theorem dX0_takeTask_103 : decode cX0_takeTask 103 = .ok (.iload_n 1, 1) := by decide +kernel
theorem dX0_takeTask_104 : decode cX0_takeTask 104 = .ok (.iconst 2, 1) := by decide +kernel
theorem dX0_takeTask_105 : decode cX0_takeTask 105 = .ok (.if_icmp .ne 7, 3) := by decide +kernel
theorem dX0_takeTask_108 : decode cX0_takeTask 108 = .ok (.iconst 0, 1) := by decide +kernel
theorem dX0_takeTask_109 : decode cX0_takeTask 109 = .ok (.goto 4, 3) := by decide +kernel
theorem dX0_takeTask_112 : decode cX0_takeTask 112 = .ok (.iload_n 2, 1) := by decide +kernel
theorem dX0_takeTask_113 : decode cX0_takeTask 113 = .ok (.invokestatic 100, 3) := by decide +kernel
theorem dX0_takeTask_116 : decode cX0_takeTask 116 = .ok (.aload_n 0, 1) := by decide +kernel
theorem dX0_takeTask_117 : decode cX0_takeTask 117 = .ok (.getfield 21, 3) := by decide +kernel
theorem dX0_takeTask_120 : decode cX0_takeTask 120 = .ok (.aload_n 0, 1) := by decide +kernel
theorem dX0_takeTask_121 : decode cX0_takeTask 121 = .ok (.getfield 39, 3) := by decide +kernel
theorem dX0_takeTask_124 : decode cX0_takeTask 124 = .ok (.iload_n 3, 1) := by decide +kernel
theorem dX0_takeTask_125 : decode cX0_takeTask 125 = .ok (.invokestatic 100, 3) := by decide +kernel
theorem dX0_takeTask_128 : decode cX0_takeTask 128 = .ok (.aload_n 0, 1) := by decide +kernel
theorem dX0_takeTask_129 : decode cX0_takeTask 129 = .ok (.getfield 24, 3) := by decide +kernel
theorem dX0_takeTask_132 : decode cX0_takeTask 132 = .ok (.aload_n 0, 1) := by decide +kernel
theorem dX0_takeTask_133 : decode cX0_takeTask 133 = .ok (.getfield 39, 3) := by decide +kernel
theorem dX0_takeTask_136 : decode cX0_takeTask 136 = .ok (.iload 4, 2) := by decide +kernel
theorem dX0_takeTask_138 : decode cX0_takeTask 138 = .ok (.invokestatic 100, 3) := by decide +kernel
theorem dX0_takeTask_141 : decode cX0_takeTask 141 = .ok (.aload_n 0, 1) := by decide +kernel
theorem dX0_takeTask_142 : decode cX0_takeTask 142 = .ok (.dup, 1) := by decide +kernel
theorem dX0_takeTask_143 : decode cX0_takeTask 143 = .ok (.getfield 39, 3) := by decide +kernel
theorem dX0_takeTask_146 : decode cX0_takeTask 146 = .ok (.iconst 1, 1) := by decide +kernel
theorem dX0_takeTask_147 : decode cX0_takeTask 147 = .ok (.iadd, 1) := by decide +kernel
theorem dX0_takeTask_148 : decode cX0_takeTask 148 = .ok (.putfield 39, 3) := by decide +kernel
theorem dX0_takeTask_151 : decode cX0_takeTask 151 = .ok (.iconst 1, 1) := by decide +kernel
theorem dX0_takeTask_152 : decode cX0_takeTask 152 = .ok (.ireturn, 1) := by decide +kernel
set_option maxRecDepth 20000 in
theorem ggX0_takeHelper_X5_numberAt : GoodIn wsX0_takeHelper wsX5_numberAt := goodIn_r _ [8] (by decide +kernel) (by decide +kernel)
set_option maxRecDepth 20000 in
theorem gX0_takeHelper_X5_numberAt_n123 : GoodIn wsX0_takeHelper (wsX5_numberAt) := ggX0_takeHelper_X5_numberAt
set_option maxRecDepth 20000 in
theorem ggX0_takeHelper_X5_setNumber : GoodIn wsX0_takeHelper wsX5_setNumber := goodIn_r _ [10] (by decide +kernel) (by decide +kernel)
set_option maxRecDepth 20000 in
theorem gX0_takeHelper_X5_setNumber_n100 : GoodIn wsX0_takeHelper (wsX5_setNumber) := ggX0_takeHelper_X5_setNumber
set_option maxRecDepth 20000 in
theorem ggX0_takeHelper_X0_helpersOf : GoodIn wsX0_takeHelper wsX0_helpersOf := goodIn_r _ [15, 5, 18, 19, 20, 21, 22, 23, 24, 25, 26, 27, 28, 29, 30, 31] (by decide +kernel) (by decide +kernel)
set_option maxRecDepth 20000 in
theorem gX0_takeHelper_X0_helpersOf : GoodIn wsX0_takeHelper (wsV RX0 68 RX0 yX0_helpersOf wsX0_helpersOf) := goodIn_app (goodIn_of _ (by decide +kernel)) ggX0_takeHelper_X0_helpersOf
set_option maxRecDepth 20000 in
theorem ggX0_takeHelper_X5_bit : GoodIn wsX0_takeHelper wsX5_bit := goodIn_r _ [17] (by decide +kernel) (by decide +kernel)
set_option maxRecDepth 20000 in
theorem gX0_takeHelper_X5_bit_n46 : GoodIn wsX0_takeHelper (wsX5_bit) := ggX0_takeHelper_X5_bit
theorem dX0_takeHelper_0 : decode cX0_takeHelper 0 = .ok (.aload_n 0, 1) := by decide +kernel
theorem dX0_takeHelper_1 : decode cX0_takeHelper 1 = .ok (.getfield 36, 3) := by decide +kernel
theorem dX0_takeHelper_4 : decode cX0_takeHelper 4 = .ok (.iconst 0, 1) := by decide +kernel
theorem dX0_takeHelper_5 : decode cX0_takeHelper 5 = .ok (.invokestatic 123, 3) := by decide +kernel
theorem dX0_takeHelper_8 : decode cX0_takeHelper 8 = .ok (.istore_n 1, 1) := by decide +kernel
theorem dX0_takeHelper_9 : decode cX0_takeHelper 9 = .ok (.aload_n 0, 1) := by decide +kernel
theorem dX0_takeHelper_10 : decode cX0_takeHelper 10 = .ok (.getfield 36, 3) := by decide +kernel
theorem dX0_takeHelper_13 : decode cX0_takeHelper 13 = .ok (.iconst 1, 1) := by decide +kernel
theorem dX0_takeHelper_14 : decode cX0_takeHelper 14 = .ok (.invokestatic 123, 3) := by decide +kernel
theorem dX0_takeHelper_17 : decode cX0_takeHelper 17 = .ok (.istore_n 2, 1) := by decide +kernel
theorem dX0_takeHelper_18 : decode cX0_takeHelper 18 = .ok (.aload_n 0, 1) := by decide +kernel
theorem dX0_takeHelper_19 : decode cX0_takeHelper 19 = .ok (.getfield 43, 3) := by decide +kernel
theorem dX0_takeHelper_22 : decode cX0_takeHelper 22 = .ok (.bipush 7, 2) := by decide +kernel
theorem dX0_takeHelper_24 : decode cX0_takeHelper 24 = .ok (.if_icmp .ge 14, 3) := by decide +kernel
theorem dX0_takeHelper_27 : decode cX0_takeHelper 27 = .ok (.iload_n 1, 1) := by decide +kernel
theorem dX0_takeHelper_28 : decode cX0_takeHelper 28 = .ok (.iconst 5, 1) := by decide +kernel
theorem dX0_takeHelper_29 : decode cX0_takeHelper 29 = .ok (.if_icmp .ge 9, 3) := by decide +kernel
theorem dX0_takeHelper_32 : decode cX0_takeHelper 32 = .ok (.iload_n 2, 1) := by decide +kernel
theorem dX0_takeHelper_33 : decode cX0_takeHelper 33 = .ok (.bipush 20, 2) := by decide +kernel
theorem dX0_takeHelper_35 : decode cX0_takeHelper 35 = .ok (.if_icmp .le 5, 3) := by decide +kernel
theorem dX0_takeHelper_38 : decode cX0_takeHelper 38 = .ok (.iconst 0, 1) := by decide +kernel
theorem dX0_takeHelper_39 : decode cX0_takeHelper 39 = .ok (.ireturn, 1) := by decide +kernel
theorem dX0_takeHelper_40 : decode cX0_takeHelper 40 = .ok (.aload_n 0, 1) := by decide +kernel
theorem dX0_takeHelper_41 : decode cX0_takeHelper 41 = .ok (.getfield 27, 3) := by decide +kernel
theorem dX0_takeHelper_44 : decode cX0_takeHelper 44 = .ok (.aload_n 0, 1) := by decide +kernel
theorem dX0_takeHelper_45 : decode cX0_takeHelper 45 = .ok (.getfield 43, 3) := by decide +kernel
theorem dX0_takeHelper_48 : decode cX0_takeHelper 48 = .ok (.iload_n 1, 1) := by decide +kernel
theorem dX0_takeHelper_49 : decode cX0_takeHelper 49 = .ok (.invokestatic 100, 3) := by decide +kernel
theorem dX0_takeHelper_52 : decode cX0_takeHelper 52 = .ok (.aload_n 0, 1) := by decide +kernel
theorem dX0_takeHelper_53 : decode cX0_takeHelper 53 = .ok (.getfield 30, 3) := by decide +kernel
theorem dX0_takeHelper_56 : decode cX0_takeHelper 56 = .ok (.aload_n 0, 1) := by decide +kernel
theorem dX0_takeHelper_57 : decode cX0_takeHelper 57 = .ok (.getfield 43, 3) := by decide +kernel
theorem dX0_takeHelper_60 : decode cX0_takeHelper 60 = .ok (.iload_n 2, 1) := by decide +kernel
theorem dX0_takeHelper_61 : decode cX0_takeHelper 61 = .ok (.invokestatic 100, 3) := by decide +kernel
theorem dX0_takeHelper_64 : decode cX0_takeHelper 64 = .ok (.aload_n 0, 1) := by decide +kernel
theorem dX0_takeHelper_65 : decode cX0_takeHelper 65 = .ok (.getfield 33, 3) := by decide +kernel
theorem dX0_takeHelper_68 : decode cX0_takeHelper 68 = .ok (.iload_n 1, 1) := by decide +kernel
theorem dX0_takeHelper_69 : decode cX0_takeHelper 69 = .ok (.aload_n 0, 1) := by decide +kernel
theorem dX0_takeHelper_70 : decode cX0_takeHelper 70 = .ok (.iload_n 1, 1) := by decide +kernel
theorem dX0_takeHelper_71 : decode cX0_takeHelper 71 = .ok (.invokevirtual 68, 3) := by decide +kernel
theorem dX0_takeHelper_74 : decode cX0_takeHelper 74 = .ok (.aload_n 0, 1) := by decide +kernel
theorem dX0_takeHelper_75 : decode cX0_takeHelper 75 = .ok (.getfield 43, 3) := by decide +kernel
theorem dX0_takeHelper_78 : decode cX0_takeHelper 78 = .ok (.invokestatic 46, 3) := by decide +kernel
theorem dX0_takeHelper_81 : decode cX0_takeHelper 81 = .ok (.ior, 1) := by decide +kernel
theorem dX0_takeHelper_82 : decode cX0_takeHelper 82 = .ok (.invokestatic 100, 3) := by decide +kernel
theorem dX0_takeHelper_85 : decode cX0_takeHelper 85 = .ok (.aload_n 0, 1) := by decide +kernel
theorem dX0_takeHelper_86 : decode cX0_takeHelper 86 = .ok (.dup, 1) := by decide +kernel
theorem dX0_takeHelper_87 : decode cX0_takeHelper 87 = .ok (.getfield 43, 3) := by decide +kernel
theorem dX0_takeHelper_90 : decode cX0_takeHelper 90 = .ok (.iconst 1, 1) := by decide +kernel
theorem dX0_takeHelper_91 : decode cX0_takeHelper 91 = .ok (.iadd, 1) := by decide +kernel
theorem dX0_takeHelper_92 : decode cX0_takeHelper 92 = .ok (.putfield 43, 3) := by decide +kernel
theorem dX0_takeHelper_95 : decode cX0_takeHelper 95 = .ok (.iconst 1, 1) := by decide +kernel
theorem dX0_takeHelper_96 : decode cX0_takeHelper 96 = .ok (.ireturn, 1) := by decide +kernel
theorem dX1_init_0 : decode cX1_init 0 = .ok (.aload_n 0, 1) := by decide +kernel
theorem dX1_init_1 : decode cX1_init 1 = .ok (.invokespecial 1, 3) := by decide +kernel
theorem dX1_init_4 : decode cX1_init 4 = .ok (.aload_n 0, 1) := by decide +kernel
theorem dX1_init_5 : decode cX1_init 5 = .ok (.iconst 1, 1) := by decide +kernel
theorem dX1_init_6 : decode cX1_init 6 = .ok (.iload_n 1, 1) := by decide +kernel
theorem dX1_init_7 : decode cX1_init 7 = .ok (.invokestatic 7, 3) := by decide +kernel
theorem dX1_init_10 : decode cX1_init 10 = .ok (.newarray .long, 2) := by decide +kernel
theorem dX1_init_12 : decode cX1_init 12 = .ok (.putfield 13, 3) := by decide +kernel
theorem dX1_init_15 : decode cX1_init 15 = .ok (.return_, 1) := by decide +kernel
theorem dX1_clear_0 : decode cX1_clear 0 = .ok (.aload_n 0, 1) := by decide +kernel
theorem dX1_clear_1 : decode cX1_clear 1 = .ok (.iconst 0, 1) := by decide +kernel
theorem dX1_clear_2 : decode cX1_clear 2 = .ok (.putfield 19, 3) := by decide +kernel
theorem dX1_clear_5 : decode cX1_clear 5 = .ok (.return_, 1) := by decide +kernel
set_option maxRecDepth 20000 in
theorem ggX1_put_X1_dropLowest : GoodIn wsX1_put wsX1_dropLowest := goodIn_r _ [7, 2, 1, 8, 9] (by decide +kernel) (by decide +kernel)
set_option maxRecDepth 20000 in
theorem gX1_put_X1_dropLowest : GoodIn wsX1_put (wsV RX1 23 RX1 yX1_dropLowest wsX1_dropLowest) := goodIn_app (goodIn_of _ (by decide +kernel)) ggX1_put_X1_dropLowest
theorem dX1_put_0 : decode cX1_put 0 = .ok (.aload_n 0, 1) := by decide +kernel
theorem dX1_put_1 : decode cX1_put 1 = .ok (.getfield 19, 3) := by decide +kernel
theorem dX1_put_4 : decode cX1_put 4 = .ok (.aload_n 0, 1) := by decide +kernel
theorem dX1_put_5 : decode cX1_put 5 = .ok (.getfield 13, 3) := by decide +kernel
theorem dX1_put_8 : decode cX1_put 8 = .ok (.arraylength, 1) := by decide +kernel
theorem dX1_put_9 : decode cX1_put 9 = .ok (.if_icmp .lt 7, 3) := by decide +kernel
theorem dX1_put_12 : decode cX1_put 12 = .ok (.aload_n 0, 1) := by decide +kernel
theorem dX1_put_13 : decode cX1_put 13 = .ok (.invokevirtual 23, 3) := by decide +kernel
theorem dX1_put_16 : decode cX1_put 16 = .ok (.aload_n 0, 1) := by decide +kernel
theorem dX1_put_17 : decode cX1_put 17 = .ok (.getfield 19, 3) := by decide +kernel
theorem dX1_put_20 : decode cX1_put 20 = .ok (.ifCond .lt 35, 3) := by decide +kernel
theorem dX1_put_23 : decode cX1_put 23 = .ok (.aload_n 0, 1) := by decide +kernel
theorem dX1_put_24 : decode cX1_put 24 = .ok (.getfield 19, 3) := by decide +kernel
theorem dX1_put_27 : decode cX1_put 27 = .ok (.aload_n 0, 1) := by decide +kernel
theorem dX1_put_28 : decode cX1_put 28 = .ok (.getfield 13, 3) := by decide +kernel
theorem dX1_put_31 : decode cX1_put 31 = .ok (.arraylength, 1) := by decide +kernel
theorem dX1_put_32 : decode cX1_put 32 = .ok (.if_icmp .ge 23, 3) := by decide +kernel
theorem dX1_put_35 : decode cX1_put 35 = .ok (.aload_n 0, 1) := by decide +kernel
theorem dX1_put_36 : decode cX1_put 36 = .ok (.getfield 13, 3) := by decide +kernel
theorem dX1_put_39 : decode cX1_put 39 = .ok (.aload_n 0, 1) := by decide +kernel
theorem dX1_put_40 : decode cX1_put 40 = .ok (.getfield 19, 3) := by decide +kernel
theorem dX1_put_43 : decode cX1_put 43 = .ok (.lload_n 1, 1) := by decide +kernel
theorem dX1_put_44 : decode cX1_put 44 = .ok (.lastore, 1) := by decide +kernel
theorem dX1_put_45 : decode cX1_put 45 = .ok (.aload_n 0, 1) := by decide +kernel
theorem dX1_put_46 : decode cX1_put 46 = .ok (.dup, 1) := by decide +kernel
theorem dX1_put_47 : decode cX1_put 47 = .ok (.getfield 19, 3) := by decide +kernel
theorem dX1_put_50 : decode cX1_put 50 = .ok (.iconst 1, 1) := by decide +kernel
theorem dX1_put_51 : decode cX1_put 51 = .ok (.iadd, 1) := by decide +kernel
theorem dX1_put_52 : decode cX1_put 52 = .ok (.putfield 19, 3) := by decide +kernel
theorem dX1_put_55 : decode cX1_put 55 = .ok (.return_, 1) := by decide +kernel
theorem dX1_dropLowest_0 : decode cX1_dropLowest 0 = .ok (.iconst 1, 1) := by decide +kernel
theorem dX1_dropLowest_1 : decode cX1_dropLowest 1 = .ok (.istore_n 1, 1) := by decide +kernel
theorem dX1_dropLowest_2 : decode cX1_dropLowest 2 = .ok (.iload_n 1, 1) := by decide +kernel
theorem dX1_dropLowest_3 : decode cX1_dropLowest 3 = .ok (.aload_n 0, 1) := by decide +kernel
theorem dX1_dropLowest_4 : decode cX1_dropLowest 4 = .ok (.getfield 13, 3) := by decide +kernel
theorem dX1_dropLowest_7 : decode cX1_dropLowest 7 = .ok (.arraylength, 1) := by decide +kernel
theorem dX1_dropLowest_8 : decode cX1_dropLowest 8 = .ok (.if_icmp .ge 23, 3) := by decide +kernel
theorem dX1_dropLowest_11 : decode cX1_dropLowest 11 = .ok (.aload_n 0, 1) := by decide +kernel
theorem dX1_dropLowest_12 : decode cX1_dropLowest 12 = .ok (.getfield 13, 3) := by decide +kernel
theorem dX1_dropLowest_15 : decode cX1_dropLowest 15 = .ok (.iload_n 1, 1) := by decide +kernel
theorem dX1_dropLowest_16 : decode cX1_dropLowest 16 = .ok (.iconst 1, 1) := by decide +kernel
theorem dX1_dropLowest_17 : decode cX1_dropLowest 17 = .ok (.isub, 1) := by decide +kernel
theorem dX1_dropLowest_18 : decode cX1_dropLowest 18 = .ok (.aload_n 0, 1) := by decide +kernel
theorem dX1_dropLowest_19 : decode cX1_dropLowest 19 = .ok (.getfield 13, 3) := by decide +kernel
theorem dX1_dropLowest_22 : decode cX1_dropLowest 22 = .ok (.iload_n 1, 1) := by decide +kernel
theorem dX1_dropLowest_23 : decode cX1_dropLowest 23 = .ok (.laload, 1) := by decide +kernel
theorem dX1_dropLowest_24 : decode cX1_dropLowest 24 = .ok (.lastore, 1) := by decide +kernel
theorem dX1_dropLowest_25 : decode cX1_dropLowest 25 = .ok (.iinc 1 1, 3) := by decide +kernel
theorem dX1_dropLowest_28 : decode cX1_dropLowest 28 = .ok (.goto (-26), 3) := by decide +kernel
theorem dX1_dropLowest_31 : decode cX1_dropLowest 31 = .ok (.aload_n 0, 1) := by decide +kernel
theorem dX1_dropLowest_32 : decode cX1_dropLowest 32 = .ok (.aload_n 0, 1) := by decide +kernel
theorem dX1_dropLowest_33 : decode cX1_dropLowest 33 = .ok (.getfield 13, 3) := by decide +kernel
theorem dX1_dropLowest_36 : decode cX1_dropLowest 36 = .ok (.arraylength, 1) := by decide +kernel
theorem dX1_dropLowest_37 : decode cX1_dropLowest 37 = .ok (.iconst 1, 1) := by decide +kernel
theorem dX1_dropLowest_38 : decode cX1_dropLowest 38 = .ok (.isub, 1) := by decide +kernel
theorem dX1_dropLowest_39 : decode cX1_dropLowest 39 = .ok (.putfield 19, 3) := by decide +kernel
theorem dX1_dropLowest_42 : decode cX1_dropLowest 42 = .ok (.return_, 1) := by decide +kernel
theorem dX1_takeLatest_0 : decode cX1_takeLatest 0 = .ok (.aload_n 0, 1) := by decide +kernel
theorem dX1_takeLatest_1 : decode cX1_takeLatest 1 = .ok (.getfield 19, 3) := by decide +kernel
theorem dX1_takeLatest_4 : decode cX1_takeLatest 4 = .ok (.iconst 1, 1) := by decide +kernel
theorem dX1_takeLatest_5 : decode cX1_takeLatest 5 = .ok (.if_icmp .lt 15, 3) := by decide +kernel
theorem dX1_takeLatest_8 : decode cX1_takeLatest 8 = .ok (.aload_n 0, 1) := by decide +kernel
theorem dX1_takeLatest_9 : decode cX1_takeLatest 9 = .ok (.getfield 19, 3) := by decide +kernel
theorem dX1_takeLatest_12 : decode cX1_takeLatest 12 = .ok (.aload_n 0, 1) := by decide +kernel
theorem dX1_takeLatest_13 : decode cX1_takeLatest 13 = .ok (.getfield 13, 3) := by decide +kernel
theorem dX1_takeLatest_16 : decode cX1_takeLatest 16 = .ok (.arraylength, 1) := by decide +kernel
theorem dX1_takeLatest_17 : decode cX1_takeLatest 17 = .ok (.if_icmp .le 5, 3) := by decide +kernel
theorem dX1_takeLatest_20 : decode cX1_takeLatest 20 = .ok (.lconst 0, 1) := by decide +kernel
theorem dX1_takeLatest_21 : decode cX1_takeLatest 21 = .ok (.lreturn, 1) := by decide +kernel
theorem dX1_takeLatest_22 : decode cX1_takeLatest 22 = .ok (.aload_n 0, 1) := by decide +kernel
theorem dX1_takeLatest_23 : decode cX1_takeLatest 23 = .ok (.dup, 1) := by decide +kernel
theorem dX1_takeLatest_24 : decode cX1_takeLatest 24 = .ok (.getfield 19, 3) := by decide +kernel
theorem dX1_takeLatest_27 : decode cX1_takeLatest 27 = .ok (.iconst 1, 1) := by decide +kernel
theorem dX1_takeLatest_28 : decode cX1_takeLatest 28 = .ok (.isub, 1) := by decide +kernel
theorem dX1_takeLatest_29 : decode cX1_takeLatest 29 = .ok (.putfield 19, 3) := by decide +kernel
theorem dX1_takeLatest_32 : decode cX1_takeLatest 32 = .ok (.aload_n 0, 1) := by decide +kernel
theorem dX1_takeLatest_33 : decode cX1_takeLatest 33 = .ok (.getfield 13, 3) := by decide +kernel
theorem dX1_takeLatest_36 : decode cX1_takeLatest 36 = .ok (.aload_n 0, 1) := by decide +kernel
theorem dX1_takeLatest_37 : decode cX1_takeLatest 37 = .ok (.getfield 19, 3) := by decide +kernel
theorem dX1_takeLatest_40 : decode cX1_takeLatest 40 = .ok (.laload, 1) := by decide +kernel
theorem dX1_takeLatest_41 : decode cX1_takeLatest 41 = .ok (.lreturn, 1) := by decide +kernel
set_option maxRecDepth 20000 in
theorem ggX2_init_X4_init : GoodIn wsX2_init wsX4_init := goodIn_r _ [15, 16, 2, 3] (by decide +kernel) (by decide +kernel)
set_option maxRecDepth 20000 in
theorem gX2_init_X4_init : GoodIn wsX2_init (wsX4_init) := ggX2_init_X4_init
theorem dX2_init_0 : decode cX2_init 0 = .ok (.aload_n 0, 1) := by decide +kernel
theorem dX2_init_1 : decode cX2_init 1 = .ok (.invokespecial 5, 3) := by decide +kernel
theorem dX2_init_4 : decode cX2_init 4 = .ok (.aload_n 0, 1) := by decide +kernel
theorem dX2_init_5 : decode cX2_init 5 = .ok (.sipush 4096, 3) := by decide +kernel
theorem dX2_init_8 : decode cX2_init 8 = .ok (.newarray .long, 2) := by decide +kernel
theorem dX2_init_10 : decode cX2_init 10 = .ok (.putfield 11, 3) := by decide +kernel
theorem dX2_init_13 : decode cX2_init 13 = .ok (.aload_n 0, 1) := by decide +kernel
theorem dX2_init_14 : decode cX2_init 14 = .ok (.new 15, 3) := by decide +kernel
theorem dX2_init_17 : decode cX2_init 17 = .ok (.dup, 1) := by decide +kernel
theorem dX2_init_18 : decode cX2_init 18 = .ok (.invokespecial 17, 3) := by decide +kernel
theorem dX2_init_21 : decode cX2_init 21 = .ok (.putfield 18, 3) := by decide +kernel
theorem dX2_init_24 : decode cX2_init 24 = .ok (.aload_n 0, 1) := by decide +kernel
theorem dX2_init_25 : decode cX2_init 25 = .ok (.aload_n 1, 1) := by decide +kernel
theorem dX2_init_26 : decode cX2_init 26 = .ok (.putfield 22, 3) := by decide +kernel
theorem dX2_init_29 : decode cX2_init 29 = .ok (.aload_n 0, 1) := by decide +kernel
theorem dX2_init_30 : decode cX2_init 30 = .ok (.aload_n 2, 1) := by decide +kernel
theorem dX2_init_31 : decode cX2_init 31 = .ok (.putfield 26, 3) := by decide +kernel
theorem dX2_init_34 : decode cX2_init 34 = .ok (.aload_n 0, 1) := by decide +kernel
theorem dX2_init_35 : decode cX2_init 35 = .ok (.aload_n 2, 1) := by decide +kernel
theorem dX2_init_36 : decode cX2_init 36 = .ok (.putfield 30, 3) := by decide +kernel
theorem dX2_init_39 : decode cX2_init 39 = .ok (.return_, 1) := by decide +kernel
set_option maxRecDepth 20000 in
theorem ggX2_waysOf_X2_begin : GoodIn wsX2_waysOf wsX2_begin := goodIn_r _ [6, 7, 8, 9, 10, 11, 12, 13, 14, 15, 16, 17, 18, 19, 20, 21, 22, 23, 24, 25, 26, 27, 28, 29, 30, 31, 32, 33, 34, 35, 36, 37, 38, 39, 40, 41, 42, 43, 44, 45, 46, 47, 48, 49, 50, 51, 52, 53, 54, 55, 56, 57, 58, 59, 60, 61, 62, 63, 64, 65, 66, 67, 68, 69, 70, 71, 72, 73, 74, 75, 76, 77, 78, 79, 80, 81, 82, 83, 84, 85, 86, 87, 88, 89, 90, 91, 92, 93, 94, 95, 96, 155, 156, 157, 158, 159, 160, 161, 162, 163, 164, 165, 166, 167, 168, 169, 170, 171, 172, 173, 174, 175, 176, 177, 178, 179, 180, 181, 182] (by decide +kernel) (by decide +kernel)
set_option maxRecDepth 20000 in
theorem gX2_waysOf_X2_begin : GoodIn wsX2_waysOf (wsV RX2 35 RX2 yX2_begin wsX2_begin) := goodIn_app (goodIn_of _ (by decide +kernel)) ggX2_waysOf_X2_begin
set_option maxRecDepth 20000 in
theorem ggX2_waysOf_X2_waysOn : GoodIn wsX2_waysOf wsX2_waysOn := goodIn_r _ [99, 11, 15, 8, 100, 101, 9, 7, 102, 37, 38, 19, 39, 21, 22, 103, 104, 105, 106, 107, 108, 109, 110, 111, 5, 112, 113, 10, 114, 115, 116, 117, 118, 119, 16, 17, 18, 20, 23, 24, 25, 26, 120, 121, 122, 123, 124, 125, 41, 126, 40, 42, 127, 128, 129, 130, 131, 132, 133, 134, 135, 136, 137, 138, 139, 36, 140, 88, 89, 46, 90, 91, 141, 60, 61, 62, 142, 93, 94, 95, 96, 143, 144, 145, 146, 79, 80, 81, 82, 147, 148, 149, 150, 55, 56, 57, 58, 43, 44, 45, 47, 48, 97, 98, 27, 28, 29, 30, 151, 152, 153, 154, 155, 156, 157, 158, 159, 160, 161, 162, 163, 164, 165, 166, 167, 168, 183, 184, 185, 169, 170, 171, 172, 173, 174, 175, 176, 177, 178, 179, 180, 181, 182] (by decide +kernel) (by decide +kernel)
set_option maxRecDepth 20000 in
theorem gX2_waysOf_X2_waysOn : GoodIn wsX2_waysOf (va_wsS RX2 39 yX2_waysOn wsX2_waysOn) := goodIn_app (goodIn_of _ (by decide +kernel)) ggX2_waysOf_X2_waysOn
theorem dX2_waysOf_0 : decode cX2_waysOf 0 = .ok (.aload_n 0, 1) := by decide +kernel
theorem dX2_waysOf_1 : decode cX2_waysOf 1 = .ok (.aload_n 1, 1) := by decide +kernel
theorem dX2_waysOf_2 : decode cX2_waysOf 2 = .ok (.aload_n 2, 1) := by decide +kernel
theorem dX2_waysOf_3 : decode cX2_waysOf 3 = .ok (.iconst 0, 1) := by decide +kernel
theorem dX2_waysOf_4 : decode cX2_waysOf 4 = .ok (.aload_n 3, 1) := by decide +kernel
theorem dX2_waysOf_5 : decode cX2_waysOf 5 = .ok (.ldc2_w 33, 3) := by decide +kernel
theorem dX2_waysOf_8 : decode cX2_waysOf 8 = .ok (.invokevirtual 35, 3) := by decide +kernel
theorem dX2_waysOf_11 : decode cX2_waysOf 11 = .ok (.aload_n 0, 1) := by decide +kernel
theorem dX2_waysOf_12 : decode cX2_waysOf 12 = .ok (.iconst 0, 1) := by decide +kernel
theorem dX2_waysOf_13 : decode cX2_waysOf 13 = .ok (.invokestatic 39, 3) := by decide +kernel
theorem dX2_waysOf_16 : decode cX2_waysOf 16 = .ok (.l2i, 1) := by decide +kernel
theorem dX2_waysOf_17 : decode cX2_waysOf 17 = .ok (.ireturn, 1) := by decide +kernel
set_option maxRecDepth 20000 in
theorem ggX2_endsWellWith_X2_begin : GoodIn wsX2_endsWellWith wsX2_begin := goodIn_r _ [6, 7, 8, 9, 10, 11, 12, 13, 14, 15, 16, 17, 18, 19, 20, 21, 22, 23, 24, 25, 26, 27, 28, 29, 30, 31, 32, 33, 34, 35, 36, 37, 38, 39, 40, 41, 42, 43, 44, 45, 46, 47, 48, 49, 50, 51, 52, 53, 54, 55, 56, 57, 58, 59, 60, 61, 62, 63, 64, 65, 66, 67, 68, 69, 70, 71, 72, 73, 74, 75, 76, 77, 78, 79, 80, 81, 82, 83, 84, 85, 86, 87, 88, 89, 90, 91, 92, 93, 94, 95, 96, 155, 156, 157, 158, 159, 160, 161, 162, 163, 164, 165, 166, 167, 168, 169, 170, 171, 172, 173, 174, 175, 176, 177, 178, 179, 180, 181, 182] (by decide +kernel) (by decide +kernel)
set_option maxRecDepth 20000 in
theorem gX2_endsWellWith_X2_begin : GoodIn wsX2_endsWellWith (wsV RX2 35 RX2 yX2_begin wsX2_begin) := goodIn_app (goodIn_of _ (by decide +kernel)) ggX2_endsWellWith_X2_begin
set_option maxRecDepth 20000 in
theorem ggX2_endsWellWith_X2_waysOn : GoodIn wsX2_endsWellWith wsX2_waysOn := goodIn_r _ [99, 11, 15, 8, 100, 101, 9, 7, 102, 37, 38, 19, 39, 21, 22, 103, 104, 105, 106, 107, 108, 109, 110, 111, 5, 112, 113, 10, 114, 115, 116, 117, 118, 119, 16, 17, 18, 20, 23, 24, 25, 26, 120, 121, 122, 123, 124, 125, 41, 126, 40, 42, 127, 128, 129, 130, 131, 132, 133, 134, 135, 136, 137, 138, 139, 36, 140, 88, 89, 46, 90, 91, 141, 60, 61, 62, 142, 93, 94, 95, 96, 143, 144, 145, 146, 79, 80, 81, 82, 147, 148, 149, 150, 55, 56, 57, 58, 43, 44, 45, 47, 48, 97, 98, 27, 28, 29, 30, 151, 152, 153, 154, 155, 156, 157, 158, 159, 160, 161, 162, 163, 164, 165, 166, 167, 168, 183, 184, 185, 169, 170, 171, 172, 173, 174, 175, 176, 177, 178, 179, 180, 181, 182] (by decide +kernel) (by decide +kernel)
set_option maxRecDepth 20000 in
theorem gX2_endsWellWith_X2_waysOn : GoodIn wsX2_endsWellWith (va_wsS RX2 39 yX2_waysOn wsX2_waysOn) := goodIn_app (goodIn_of _ (by decide +kernel)) ggX2_endsWellWith_X2_waysOn
theorem dX2_endsWellWith_0 : decode cX2_endsWellWith 0 = .ok (.aload_n 0, 1) := by decide +kernel
theorem dX2_endsWellWith_1 : decode cX2_endsWellWith 1 = .ok (.aload_n 1, 1) := by decide +kernel
theorem dX2_endsWellWith_2 : decode cX2_endsWellWith 2 = .ok (.aload_n 2, 1) := by decide +kernel
theorem dX2_endsWellWith_3 : decode cX2_endsWellWith 3 = .ok (.iload_n 3, 1) := by decide +kernel
theorem dX2_endsWellWith_4 : decode cX2_endsWellWith 4 = .ok (.aload_n 0, 1) := by decide +kernel
theorem dX2_endsWellWith_5 : decode cX2_endsWellWith 5 = .ok (.getfield 26, 3) := by decide +kernel
theorem dX2_endsWellWith_8 : decode cX2_endsWellWith 8 = .ok (.lconst 1, 1) := by decide +kernel
theorem dX2_endsWellWith_9 : decode cX2_endsWellWith 9 = .ok (.invokevirtual 35, 3) := by decide +kernel
theorem dX2_endsWellWith_12 : decode cX2_endsWellWith 12 = .ok (.aload_n 0, 1) := by decide +kernel
theorem dX2_endsWellWith_13 : decode cX2_endsWellWith 13 = .ok (.iconst 0, 1) := by decide +kernel
theorem dX2_endsWellWith_14 : decode cX2_endsWellWith 14 = .ok (.invokestatic 39, 3) := by decide +kernel
theorem dX2_endsWellWith_17 : decode cX2_endsWellWith 17 = .ok (.lconst 0, 1) := by decide +kernel
theorem dX2_endsWellWith_18 : decode cX2_endsWellWith 18 = .ok (.lcmp, 1) := by decide +kernel
theorem dX2_endsWellWith_19 : decode cX2_endsWellWith 19 = .ok (.ifCond .le 7, 3) := by decide +kernel
theorem dX2_endsWellWith_22 : decode cX2_endsWellWith 22 = .ok (.iconst 1, 1) := by decide +kernel
theorem dX2_endsWellWith_23 : decode cX2_endsWellWith 23 = .ok (.goto 4, 3) := by decide +kernel
theorem dX2_endsWellWith_26 : decode cX2_endsWellWith 26 = .ok (.iconst 0, 1) := by decide +kernel
theorem dX2_endsWellWith_27 : decode cX2_endsWellWith 27 = .ok (.ireturn, 1) := by decide +kernel
set_option maxRecDepth 20000 in
theorem ggX2_placeInFirst_X2_begin : GoodIn wsX2_placeInFirst wsX2_begin := goodIn_r _ [5, 6, 7, 8, 9, 10, 11, 12, 13, 14, 15, 16, 17, 18, 19, 20, 21, 22, 23, 24, 25, 26, 27, 28, 29, 30, 31, 32, 33, 34, 35, 36, 37, 38, 39, 40, 41, 42, 43, 44, 45, 46, 47, 48, 49, 50, 51, 52, 53, 54, 55, 56, 57, 58, 59, 60, 61, 62, 63, 64, 65, 66, 67, 68, 69, 70, 71, 72, 73, 74, 75, 76, 77, 78, 79, 80, 81, 82, 83, 84, 85, 86, 87, 88, 89, 90, 91, 92, 93, 94, 95, 158, 159, 160, 161, 162, 163, 164, 165, 166, 167, 168, 169, 170, 171, 172, 173, 174, 175, 176, 177, 178, 179, 180, 181, 182, 183, 184, 185] (by decide +kernel) (by decide +kernel)
set_option maxRecDepth 20000 in
theorem gX2_placeInFirst_X2_begin : GoodIn wsX2_placeInFirst (wsV RX2 35 RX2 yX2_begin wsX2_begin) := goodIn_app (goodIn_of _ (by decide +kernel)) ggX2_placeInFirst_X2_begin
set_option maxRecDepth 20000 in
theorem ggX2_placeInFirst_X2_rideFirst : GoodIn wsX2_placeInFirst wsX2_rideFirst := goodIn_r _ [99, 10, 7, 6, 15, 16, 17, 18, 19, 20, 21, 22, 23, 24, 25, 100, 101, 102, 103, 104, 105, 106, 40, 107, 39, 41, 108, 109, 110, 111, 112, 113, 114, 115, 116, 117, 118, 119, 120, 35, 36, 37, 38, 121, 87, 88, 45, 89, 90, 122, 59, 60, 61, 123, 92, 93, 94, 95, 124, 125, 126, 127, 78, 79, 80, 81, 128, 129, 130, 131, 54, 55, 56, 57, 42, 43, 44, 46, 47, 132, 133, 4, 134, 14, 135, 136, 8, 137, 138, 139, 140, 141, 142, 143, 144, 145, 146, 147, 9, 148, 149, 150, 151, 152, 153, 26, 27, 28, 29, 154, 155, 156, 157, 158, 159, 160, 161, 162, 163, 164, 165, 166, 167, 168, 169, 170, 171, 186, 187, 188, 172, 173, 174, 175, 176, 177, 178, 179, 180, 181, 182, 183, 184, 185] (by decide +kernel) (by decide +kernel)
set_option maxRecDepth 20000 in
theorem gX2_placeInFirst_X2_rideFirst : GoodIn wsX2_placeInFirst (wsV RX2 43 RX2 yX2_rideFirst wsX2_rideFirst) := goodIn_app (goodIn_of _ (by decide +kernel)) ggX2_placeInFirst_X2_rideFirst
theorem dX2_placeInFirst_0 : decode cX2_placeInFirst 0 = .ok (.aload_n 0, 1) := by decide +kernel
theorem dX2_placeInFirst_1 : decode cX2_placeInFirst 1 = .ok (.aload_n 1, 1) := by decide +kernel
theorem dX2_placeInFirst_2 : decode cX2_placeInFirst 2 = .ok (.aload_n 2, 1) := by decide +kernel
theorem dX2_placeInFirst_3 : decode cX2_placeInFirst 3 = .ok (.iconst 0, 1) := by decide +kernel
theorem dX2_placeInFirst_4 : decode cX2_placeInFirst 4 = .ok (.aload_n 3, 1) := by decide +kernel
theorem dX2_placeInFirst_5 : decode cX2_placeInFirst 5 = .ok (.lconst 1, 1) := by decide +kernel
theorem dX2_placeInFirst_6 : decode cX2_placeInFirst 6 = .ok (.invokevirtual 35, 3) := by decide +kernel
theorem dX2_placeInFirst_9 : decode cX2_placeInFirst 9 = .ok (.bipush (-4), 2) := by decide +kernel
theorem dX2_placeInFirst_11 : decode cX2_placeInFirst 11 = .ok (.istore 5, 2) := by decide +kernel
theorem dX2_placeInFirst_13 : decode cX2_placeInFirst 13 = .ok (.iconst 0, 1) := by decide +kernel
theorem dX2_placeInFirst_14 : decode cX2_placeInFirst 14 = .ok (.istore 6, 2) := by decide +kernel
theorem dX2_placeInFirst_16 : decode cX2_placeInFirst 16 = .ok (.iload 6, 2) := by decide +kernel
theorem dX2_placeInFirst_18 : decode cX2_placeInFirst 18 = .ok (.iload 4, 2) := by decide +kernel
theorem dX2_placeInFirst_20 : decode cX2_placeInFirst 20 = .ok (.if_icmp .ge 25, 3) := by decide +kernel
theorem dX2_placeInFirst_23 : decode cX2_placeInFirst 23 = .ok (.aload_n 0, 1) := by decide +kernel
theorem dX2_placeInFirst_24 : decode cX2_placeInFirst 24 = .ok (.iload 6, 2) := by decide +kernel
theorem dX2_placeInFirst_26 : decode cX2_placeInFirst 26 = .ok (.invokevirtual 43, 3) := by decide +kernel
theorem dX2_placeInFirst_29 : decode cX2_placeInFirst 29 = .ok (.istore 5, 2) := by decide +kernel
theorem dX2_placeInFirst_31 : decode cX2_placeInFirst 31 = .ok (.iload 5, 2) := by decide +kernel
theorem dX2_placeInFirst_33 : decode cX2_placeInFirst 33 = .ok (.ifCond .ge 6, 3) := by decide +kernel
theorem dX2_placeInFirst_36 : decode cX2_placeInFirst 36 = .ok (.bipush (-4), 2) := by decide +kernel
theorem dX2_placeInFirst_38 : decode cX2_placeInFirst 38 = .ok (.ireturn, 1) := by decide +kernel
theorem dX2_placeInFirst_39 : decode cX2_placeInFirst 39 = .ok (.iinc 6 1, 3) := by decide +kernel
theorem dX2_placeInFirst_42 : decode cX2_placeInFirst 42 = .ok (.goto (-26), 3) := by decide +kernel
theorem dX2_placeInFirst_45 : decode cX2_placeInFirst 45 = .ok (.iload 5, 2) := by decide +kernel
theorem dX2_placeInFirst_47 : decode cX2_placeInFirst 47 = .ok (.ireturn, 1) := by decide +kernel
set_option maxRecDepth 20000 in
theorem ggX2_fewestSet_X5_bit : GoodIn wsX2_fewestSet wsX5_bit := goodIn_r _ [6] (by decide +kernel) (by decide +kernel)
set_option maxRecDepth 20000 in
theorem gX2_fewestSet_X5_bit_n56 : GoodIn wsX2_fewestSet (wsX5_bit) := ggX2_fewestSet_X5_bit
set_option maxRecDepth 20000 in
theorem ggX2_fewestSet_X2_endsWellWith : GoodIn wsX2_fewestSet wsX2_endsWellWith := goodIn_r _ [11, 12, 13, 14, 15, 10, 16, 17, 18, 19, 20, 21, 3, 22, 23, 24, 25, 26, 27, 28, 29, 30, 31, 32, 33, 34, 35, 36, 37, 38, 39, 40, 41, 42, 43, 44, 45, 46, 47, 48, 4, 5, 6, 49, 50, 51, 52, 53, 54, 55, 56, 57, 58, 59, 60, 61, 62, 63, 64, 65, 66, 67, 68, 69, 70, 71, 72, 73, 74, 75, 76, 77, 78, 79, 80, 81, 82, 83, 84, 85, 86, 87, 88, 89, 90, 91, 92, 93, 94, 95, 96, 97, 98, 99, 100, 101, 102, 103, 104, 105, 106, 107, 108, 109, 110, 111, 112, 113, 114, 115, 116, 117, 118, 119, 120, 121, 122, 123, 124, 125, 126, 127, 128, 129, 130, 131, 132, 133, 134, 135, 136, 137, 138, 139, 140, 141, 142, 143, 144, 145, 146, 147, 148, 149, 150, 151, 152, 153, 154, 155, 156, 157, 158, 159, 160, 191, 192, 193, 194, 195, 196, 197, 198, 171, 172, 173, 174, 175, 176, 177, 178, 179, 180, 181, 182, 183, 184, 185, 186, 187, 188, 189, 190, 199, 200, 201] (by decide +kernel) (by decide +kernel)
set_option maxRecDepth 20000 in
theorem gX2_fewestSet_X2_endsWellWith : GoodIn wsX2_fewestSet (wsV RX2 62 RX2 yX2_endsWellWith wsX2_endsWellWith) := goodIn_app (goodIn_of _ (by decide +kernel)) ggX2_fewestSet_X2_endsWellWith
set_option maxRecDepth 20000 in
theorem ggX2_fewestSet_X0_priceOfSet : GoodIn wsX2_fewestSet wsX0_priceOfSet := goodIn_r _ [164, 165, 4, 5, 6, 166, 167, 168, 52, 169, 170, 177, 178, 179, 180, 181, 182, 183, 184, 185, 186, 187, 188, 189, 190] (by decide +kernel) (by decide +kernel)
set_option maxRecDepth 20000 in
theorem gX2_fewestSet_X0_priceOfSet : GoodIn wsX2_fewestSet (wsV RX2 66 RX0 yX0_priceOfSet wsX0_priceOfSet) := goodIn_app (goodIn_of _ (by decide +kernel)) ggX2_fewestSet_X0_priceOfSet
theorem dX2_fewestSet_0 : decode cX2_fewestSet 0 = .ok (.bipush (-4), 2) := by decide +kernel
theorem dX2_fewestSet_2 : decode cX2_fewestSet 2 = .ok (.istore_n 3, 1) := by decide +kernel
theorem dX2_fewestSet_3 : decode cX2_fewestSet 3 = .ok (.aload_n 2, 1) := by decide +kernel
theorem dX2_fewestSet_4 : decode cX2_fewestSet 4 = .ok (.getfield 47, 3) := by decide +kernel
theorem dX2_fewestSet_7 : decode cX2_fewestSet 7 = .ok (.iconst 1, 1) := by decide +kernel
theorem dX2_fewestSet_8 : decode cX2_fewestSet 8 = .ok (.iadd, 1) := by decide +kernel
theorem dX2_fewestSet_9 : decode cX2_fewestSet 9 = .ok (.istore 4, 2) := by decide +kernel
theorem dX2_fewestSet_11 : decode cX2_fewestSet 11 = .ok (.aload_n 1, 1) := by decide +kernel
theorem dX2_fewestSet_12 : decode cX2_fewestSet 12 = .ok (.getfield 51, 3) := by decide +kernel
theorem dX2_fewestSet_15 : decode cX2_fewestSet 15 = .ok (.invokestatic 56, 3) := by decide +kernel
theorem dX2_fewestSet_18 : decode cX2_fewestSet 18 = .ok (.iconst 1, 1) := by decide +kernel
theorem dX2_fewestSet_19 : decode cX2_fewestSet 19 = .ok (.isub, 1) := by decide +kernel
theorem dX2_fewestSet_20 : decode cX2_fewestSet 20 = .ok (.aload_n 2, 1) := by decide +kernel
theorem dX2_fewestSet_21 : decode cX2_fewestSet 21 = .ok (.getfield 59, 3) := by decide +kernel
theorem dX2_fewestSet_24 : decode cX2_fewestSet 24 = .ok (.iconst (-1), 1) := by decide +kernel
theorem dX2_fewestSet_25 : decode cX2_fewestSet 25 = .ok (.ixor, 1) := by decide +kernel
theorem dX2_fewestSet_26 : decode cX2_fewestSet 26 = .ok (.iand, 1) := by decide +kernel
theorem dX2_fewestSet_27 : decode cX2_fewestSet 27 = .ok (.istore 5, 2) := by decide +kernel
theorem dX2_fewestSet_29 : decode cX2_fewestSet 29 = .ok (.aload_n 0, 1) := by decide +kernel
theorem dX2_fewestSet_30 : decode cX2_fewestSet 30 = .ok (.aload_n 1, 1) := by decide +kernel
theorem dX2_fewestSet_31 : decode cX2_fewestSet 31 = .ok (.aload_n 2, 1) := by decide +kernel
theorem dX2_fewestSet_32 : decode cX2_fewestSet 32 = .ok (.iload 5, 2) := by decide +kernel
theorem dX2_fewestSet_34 : decode cX2_fewestSet 34 = .ok (.invokevirtual 62, 3) := by decide +kernel
theorem dX2_fewestSet_37 : decode cX2_fewestSet 37 = .ok (.ifCond .ne 6, 3) := by decide +kernel
theorem dX2_fewestSet_40 : decode cX2_fewestSet 40 = .ok (.bipush (-4), 2) := by decide +kernel
theorem dX2_fewestSet_42 : decode cX2_fewestSet 42 = .ok (.ireturn, 1) := by decide +kernel
theorem dX2_fewestSet_43 : decode cX2_fewestSet 43 = .ok (.iconst 0, 1) := by decide +kernel
theorem dX2_fewestSet_44 : decode cX2_fewestSet 44 = .ok (.istore 6, 2) := by decide +kernel
theorem dX2_fewestSet_46 : decode cX2_fewestSet 46 = .ok (.iload 6, 2) := by decide +kernel
theorem dX2_fewestSet_48 : decode cX2_fewestSet 48 = .ok (.sipush 128, 3) := by decide +kernel
theorem dX2_fewestSet_51 : decode cX2_fewestSet 51 = .ok (.if_icmp .ge 52, 3) := by decide +kernel
theorem dX2_fewestSet_54 : decode cX2_fewestSet 54 = .ok (.aload_n 1, 1) := by decide +kernel
theorem dX2_fewestSet_55 : decode cX2_fewestSet 55 = .ok (.iload 6, 2) := by decide +kernel
theorem dX2_fewestSet_57 : decode cX2_fewestSet 57 = .ok (.invokevirtual 66, 3) := by decide +kernel
theorem dX2_fewestSet_60 : decode cX2_fewestSet 60 = .ok (.istore 7, 2) := by decide +kernel
theorem dX2_fewestSet_62 : decode cX2_fewestSet 62 = .ok (.iload 6, 2) := by decide +kernel
theorem dX2_fewestSet_64 : decode cX2_fewestSet 64 = .ok (.iload 5, 2) := by decide +kernel
theorem dX2_fewestSet_66 : decode cX2_fewestSet 66 = .ok (.iconst (-1), 1) := by decide +kernel
theorem dX2_fewestSet_67 : decode cX2_fewestSet 67 = .ok (.ixor, 1) := by decide +kernel
theorem dX2_fewestSet_68 : decode cX2_fewestSet 68 = .ok (.iand, 1) := by decide +kernel
theorem dX2_fewestSet_69 : decode cX2_fewestSet 69 = .ok (.ifCond .ne 28, 3) := by decide +kernel
theorem dX2_fewestSet_72 : decode cX2_fewestSet 72 = .ok (.iload 7, 2) := by decide +kernel
theorem dX2_fewestSet_74 : decode cX2_fewestSet 74 = .ok (.iload 4, 2) := by decide +kernel
theorem dX2_fewestSet_76 : decode cX2_fewestSet 76 = .ok (.if_icmp .ge 21, 3) := by decide +kernel
theorem dX2_fewestSet_79 : decode cX2_fewestSet 79 = .ok (.aload_n 0, 1) := by decide +kernel
theorem dX2_fewestSet_80 : decode cX2_fewestSet 80 = .ok (.aload_n 1, 1) := by decide +kernel
theorem dX2_fewestSet_81 : decode cX2_fewestSet 81 = .ok (.aload_n 2, 1) := by decide +kernel
theorem dX2_fewestSet_82 : decode cX2_fewestSet 82 = .ok (.iload 6, 2) := by decide +kernel
theorem dX2_fewestSet_84 : decode cX2_fewestSet 84 = .ok (.invokevirtual 62, 3) := by decide +kernel
theorem dX2_fewestSet_87 : decode cX2_fewestSet 87 = .ok (.ifCond .eq 10, 3) := by decide +kernel
theorem dX2_fewestSet_90 : decode cX2_fewestSet 90 = .ok (.iload 6, 2) := by decide +kernel
theorem dX2_fewestSet_92 : decode cX2_fewestSet 92 = .ok (.istore_n 3, 1) := by decide +kernel
theorem dX2_fewestSet_93 : decode cX2_fewestSet 93 = .ok (.iload 7, 2) := by decide +kernel
theorem dX2_fewestSet_95 : decode cX2_fewestSet 95 = .ok (.istore 4, 2) := by decide +kernel
theorem dX2_fewestSet_97 : decode cX2_fewestSet 97 = .ok (.iinc 6 1, 3) := by decide +kernel
theorem dX2_fewestSet_100 : decode cX2_fewestSet 100 = .ok (.goto (-54), 3) := by decide +kernel
theorem dX2_fewestSet_103 : decode cX2_fewestSet 103 = .ok (.iload_n 3, 1) := by decide +kernel
theorem dX2_fewestSet_104 : decode cX2_fewestSet 104 = .ok (.ireturn, 1) := by decide +kernel
set_option maxRecDepth 20000 in
theorem ggX2_begin_X4_packed : GoodIn wsX2_begin wsX4_packed := goodIn_r _ [14, 15, 16, 17, 18, 19, 20, 99, 100, 101, 102, 103, 104] (by decide +kernel) (by decide +kernel)
set_option maxRecDepth 20000 in
theorem gX2_begin_X4_packed : GoodIn wsX2_begin (wsV RX2 76 RX4 yX4_packed wsX4_packed) := goodIn_app (goodIn_of _ (by decide +kernel)) ggX2_begin_X4_packed
set_option maxRecDepth 20000 in
theorem ggX2_begin_X4_unpack : GoodIn wsX2_begin wsX4_unpack := goodIn_r _ [24, 15, 16, 17, 18, 19, 20, 99, 100, 101, 102, 103, 104] (by decide +kernel) (by decide +kernel)
set_option maxRecDepth 20000 in
theorem gX2_begin_X4_unpack : GoodIn wsX2_begin (wsV RX2 80 RX4 yX4_unpack wsX4_unpack) := goodIn_app (goodIn_of _ (by decide +kernel)) ggX2_begin_X4_unpack
set_option maxRecDepth 20000 in
theorem ggX2_begin_X4_tasksToCome : GoodIn wsX2_begin wsX4_tasksToCome := goodIn_r _ [28, 29, 16, 30, 31, 32, 13, 33, 15, 34, 35, 36, 37, 38, 39, 40, 41, 42, 105, 106, 107, 108, 109, 110, 111, 112, 113, 114, 115, 116, 117, 118, 99, 100, 101, 102, 103, 104] (by decide +kernel) (by decide +kernel)
set_option maxRecDepth 20000 in
theorem gX2_begin_X4_tasksToCome : GoodIn wsX2_begin (wsV RX2 84 RX4 yX4_tasksToCome wsX4_tasksToCome) := goodIn_app (goodIn_of _ (by decide +kernel)) ggX2_begin_X4_tasksToCome
set_option maxRecDepth 20000 in
theorem ggX2_begin_X0_rideDaysOfSet : GoodIn wsX2_begin wsX0_rideDaysOfSet := goodIn_r _ [46, 47, 34, 35, 36, 48, 49, 50, 40, 51, 52, 105, 106, 107, 108, 109, 110, 111, 112, 113, 114, 115, 116, 117, 118] (by decide +kernel) (by decide +kernel)
set_option maxRecDepth 20000 in
theorem gX2_begin_X0_rideDaysOfSet : GoodIn wsX2_begin (wsV RX2 91 RX0 yX0_rideDaysOfSet wsX0_rideDaysOfSet) := goodIn_app (goodIn_of _ (by decide +kernel)) ggX2_begin_X0_rideDaysOfSet
set_option maxRecDepth 20000 in
theorem ggX2_begin_X4_freeFriends : GoodIn wsX2_begin wsX4_freeFriends := goodIn_r _ [56, 17, 18, 99, 100, 101, 102, 103, 104] (by decide +kernel) (by decide +kernel)
set_option maxRecDepth 20000 in
theorem gX2_begin_X4_freeFriends : GoodIn wsX2_begin (wsV RX2 97 RX4 yX4_freeFriends wsX4_freeFriends) := goodIn_app (goodIn_of _ (by decide +kernel)) ggX2_begin_X4_freeFriends
set_option maxRecDepth 20000 in
theorem ggX2_begin_X0_isHelpEnough : GoodIn wsX2_begin wsX0_isHelpEnough := goodIn_r _ [60, 61, 62, 63, 64, 65, 66, 67, 68, 69, 70, 40, 71, 47, 34, 35, 36, 72, 73, 74, 75, 76, 77, 78, 79, 80, 81, 82, 83, 84, 85, 86, 87, 88, 89, 90, 105, 106, 107, 108, 109, 110, 111, 112, 113, 114, 115, 116, 117, 118] (by decide +kernel) (by decide +kernel)
set_option maxRecDepth 20000 in
theorem gX2_begin_X0_isHelpEnough : GoodIn wsX2_begin (wsV RX2 101 RX0 yX0_isHelpEnough wsX0_isHelpEnough) := goodIn_app (goodIn_of _ (by decide +kernel)) ggX2_begin_X0_isHelpEnough
theorem dX2_begin_0 : decode cX2_begin 0 = .ok (.aload_n 0, 1) := by decide +kernel
theorem dX2_begin_1 : decode cX2_begin 1 = .ok (.aload_n 1, 1) := by decide +kernel
theorem dX2_begin_2 : decode cX2_begin 2 = .ok (.putfield 22, 3) := by decide +kernel
theorem dX2_begin_5 : decode cX2_begin 5 = .ok (.aload_n 0, 1) := by decide +kernel
theorem dX2_begin_6 : decode cX2_begin 6 = .ok (.aload 4, 2) := by decide +kernel
theorem dX2_begin_8 : decode cX2_begin 8 = .ok (.putfield 30, 3) := by decide +kernel
theorem dX2_begin_11 : decode cX2_begin 11 = .ok (.aload_n 0, 1) := by decide +kernel
theorem dX2_begin_12 : decode cX2_begin 12 = .ok (.lload 5, 2) := by decide +kernel
theorem dX2_begin_14 : decode cX2_begin 14 = .ok (.putfield 69, 3) := by decide +kernel
theorem dX2_begin_17 : decode cX2_begin 17 = .ok (.aload_n 0, 1) := by decide +kernel
theorem dX2_begin_18 : decode cX2_begin 18 = .ok (.dup, 1) := by decide +kernel
theorem dX2_begin_19 : decode cX2_begin 19 = .ok (.getfield 73, 3) := by decide +kernel
theorem dX2_begin_22 : decode cX2_begin 22 = .ok (.lconst 1, 1) := by decide +kernel
theorem dX2_begin_23 : decode cX2_begin 23 = .ok (.ladd, 1) := by decide +kernel
theorem dX2_begin_24 : decode cX2_begin 24 = .ok (.putfield 73, 3) := by decide +kernel
theorem dX2_begin_27 : decode cX2_begin 27 = .ok (.aload_n 0, 1) := by decide +kernel
theorem dX2_begin_28 : decode cX2_begin 28 = .ok (.getfield 18, 3) := by decide +kernel
theorem dX2_begin_31 : decode cX2_begin 31 = .ok (.aload_n 2, 1) := by decide +kernel
theorem dX2_begin_32 : decode cX2_begin 32 = .ok (.invokevirtual 76, 3) := by decide +kernel
theorem dX2_begin_35 : decode cX2_begin 35 = .ok (.invokevirtual 80, 3) := by decide +kernel
theorem dX2_begin_38 : decode cX2_begin 38 = .ok (.aload_n 0, 1) := by decide +kernel
theorem dX2_begin_39 : decode cX2_begin 39 = .ok (.getfield 18, 3) := by decide +kernel
theorem dX2_begin_42 : decode cX2_begin 42 = .ok (.dup, 1) := by decide +kernel
theorem dX2_begin_43 : decode cX2_begin 43 = .ok (.getfield 59, 3) := by decide +kernel
theorem dX2_begin_46 : decode cX2_begin 46 = .ok (.iload_n 3, 1) := by decide +kernel
theorem dX2_begin_47 : decode cX2_begin 47 = .ok (.ior, 1) := by decide +kernel
theorem dX2_begin_48 : decode cX2_begin 48 = .ok (.putfield 59, 3) := by decide +kernel
theorem dX2_begin_51 : decode cX2_begin 51 = .ok (.aload_n 0, 1) := by decide +kernel
theorem dX2_begin_52 : decode cX2_begin 52 = .ok (.getfield 18, 3) := by decide +kernel
theorem dX2_begin_55 : decode cX2_begin 55 = .ok (.aload_n 1, 1) := by decide +kernel
theorem dX2_begin_56 : decode cX2_begin 56 = .ok (.invokevirtual 84, 3) := by decide +kernel
theorem dX2_begin_59 : decode cX2_begin 59 = .ok (.istore 7, 2) := by decide +kernel
theorem dX2_begin_61 : decode cX2_begin 61 = .ok (.aload_n 0, 1) := by decide +kernel
theorem dX2_begin_62 : decode cX2_begin 62 = .ok (.aload_n 0, 1) := by decide +kernel
theorem dX2_begin_63 : decode cX2_begin 63 = .ok (.getfield 18, 3) := by decide +kernel
theorem dX2_begin_66 : decode cX2_begin 66 = .ok (.getfield 88, 3) := by decide +kernel
theorem dX2_begin_69 : decode cX2_begin 69 = .ok (.aload_n 1, 1) := by decide +kernel
theorem dX2_begin_70 : decode cX2_begin 70 = .ok (.iload 7, 2) := by decide +kernel
theorem dX2_begin_72 : decode cX2_begin 72 = .ok (.invokevirtual 91, 3) := by decide +kernel
theorem dX2_begin_75 : decode cX2_begin 75 = .ok (.iadd, 1) := by decide +kernel
theorem dX2_begin_76 : decode cX2_begin 76 = .ok (.aload_n 1, 1) := by decide +kernel
theorem dX2_begin_77 : decode cX2_begin 77 = .ok (.getfield 94, 3) := by decide +kernel
theorem dX2_begin_80 : decode cX2_begin 80 = .ok (.if_icmp .gt 19, 3) := by decide +kernel
theorem dX2_begin_83 : decode cX2_begin 83 = .ok (.aload_n 1, 1) := by decide +kernel
theorem dX2_begin_84 : decode cX2_begin 84 = .ok (.iload 7, 2) := by decide +kernel
theorem dX2_begin_86 : decode cX2_begin 86 = .ok (.aload_n 0, 1) := by decide +kernel
theorem dX2_begin_87 : decode cX2_begin 87 = .ok (.getfield 18, 3) := by decide +kernel
theorem dX2_begin_90 : decode cX2_begin 90 = .ok (.invokevirtual 97, 3) := by decide +kernel
theorem dX2_begin_93 : decode cX2_begin 93 = .ok (.invokevirtual 101, 3) := by decide +kernel
theorem dX2_begin_96 : decode cX2_begin 96 = .ok (.ifCond .ne 7, 3) := by decide +kernel
theorem dX2_begin_99 : decode cX2_begin 99 = .ok (.iconst 1, 1) := by decide +kernel
theorem dX2_begin_100 : decode cX2_begin 100 = .ok (.goto 4, 3) := by decide +kernel
theorem dX2_begin_103 : decode cX2_begin 103 = .ok (.iconst 0, 1) := by decide +kernel
theorem dX2_begin_104 : decode cX2_begin 104 = .ok (.putfield 105, 3) := by decide +kernel
theorem dX2_begin_107 : decode cX2_begin 107 = .ok (.return_, 1) := by decide +kernel
set_option maxRecDepth 20000 in
theorem ggX2_rideFirst_X4_packed : GoodIn wsX2_rideFirst wsX4_packed := goodIn_r _ [8, 9, 10, 11, 12, 13, 14, 121, 122, 123, 124, 125, 126] (by decide +kernel) (by decide +kernel)
set_option maxRecDepth 20000 in
theorem gX2_rideFirst_X4_packed : GoodIn wsX2_rideFirst (wsV RX2 76 RX4 yX4_packed wsX4_packed) := goodIn_app (goodIn_of _ (by decide +kernel)) ggX2_rideFirst_X4_packed
set_option maxRecDepth 20000 in
theorem ggX2_rideFirst_X3_leaves : GoodIn wsX2_rideFirst wsX3_leaves := goodIn_r _ [19, 20, 21, 22, 23, 24, 25, 127, 128, 129] (by decide +kernel) (by decide +kernel)
set_option maxRecDepth 20000 in
theorem gX2_rideFirst_X3_leaves : GoodIn wsX2_rideFirst (wsV RX2 109 RX3 yX3_leaves wsX3_leaves) := goodIn_app (goodIn_of _ (by decide +kernel)) ggX2_rideFirst_X3_leaves
set_option maxRecDepth 20000 in
theorem ggX2_rideFirst_X4_tryRide : GoodIn wsX2_rideFirst wsX4_tryRide := goodIn_r _ [29, 12, 14, 10, 9, 30, 31, 32, 7, 33, 34, 35, 36, 37, 38, 39, 40, 41, 42, 24, 22, 25, 43, 44, 45, 46, 47, 48, 49, 50, 51, 52, 11, 53, 54, 55, 56, 57, 58, 59, 60, 61, 62, 63, 64, 65, 66, 67, 68, 69, 70, 71, 72, 73, 74, 75, 76, 77, 78, 121, 122, 123, 124, 125, 126, 130, 131, 132, 133, 134, 135, 136, 137, 138, 139, 140, 141, 142, 143] (by decide +kernel) (by decide +kernel)
set_option maxRecDepth 20000 in
theorem gX2_rideFirst_X4_tryRide : GoodIn wsX2_rideFirst (wsV RX2 114 RX4 yX4_tryRide wsX4_tryRide) := goodIn_app (goodIn_of _ (by decide +kernel)) ggX2_rideFirst_X4_tryRide
set_option maxRecDepth 20000 in
theorem ggX2_rideFirst_X2_waysOn : GoodIn wsX2_rideFirst wsX2_waysOn := goodIn_r _ [82, 1, 83, 2, 84, 85, 86, 3, 87, 40, 41, 7, 42, 9, 10, 88, 89, 90, 18, 91, 92, 93, 94, 95, 81, 96, 97, 98, 99, 100, 101, 102, 103, 104, 4, 5, 6, 8, 11, 12, 13, 14, 15, 16, 17, 19, 20, 21, 22, 23, 24, 25, 26, 27, 28, 29, 30, 31, 32, 33, 34, 35, 36, 37, 38, 39, 43, 44, 45, 46, 47, 48, 49, 50, 51, 52, 53, 54, 55, 56, 57, 58, 59, 60, 61, 62, 63, 64, 65, 66, 67, 68, 69, 70, 71, 72, 73, 74, 75, 76, 77, 78, 79, 80, 105, 106, 107, 108, 109, 110, 111, 112, 113, 114, 115, 116, 117, 118, 119, 120, 121, 122, 123, 124, 125, 126, 127, 128, 129, 130, 131, 132, 133, 134, 135, 136, 137, 138, 139, 140, 141, 142, 143] (by decide +kernel) (by decide +kernel)
set_option maxRecDepth 20000 in
theorem gX2_rideFirst_X2_waysOn : GoodIn wsX2_rideFirst (va_wsS RX2 39 yX2_waysOn wsX2_waysOn) := goodIn_app (goodIn_of _ (by decide +kernel)) ggX2_rideFirst_X2_waysOn
set_option maxRecDepth 20000 in
theorem ggX2_rideFirst_X4_unpack : GoodIn wsX2_rideFirst wsX4_unpack := goodIn_r _ [108, 9, 10, 11, 12, 13, 14, 121, 122, 123, 124, 125, 126] (by decide +kernel) (by decide +kernel)
set_option maxRecDepth 20000 in
theorem gX2_rideFirst_X4_unpack : GoodIn wsX2_rideFirst (wsV RX2 80 RX4 yX4_unpack wsX4_unpack) := goodIn_app (goodIn_of _ (by decide +kernel)) ggX2_rideFirst_X4_unpack
theorem dX2_rideFirst_0 : decode cX2_rideFirst 0 = .ok (.aload_n 0, 1) := by decide +kernel
theorem dX2_rideFirst_1 : decode cX2_rideFirst 1 = .ok (.getfield 18, 3) := by decide +kernel
theorem dX2_rideFirst_4 : decode cX2_rideFirst 4 = .ok (.invokevirtual 76, 3) := by decide +kernel
theorem dX2_rideFirst_7 : decode cX2_rideFirst 7 = .ok (.lstore_n 2, 1) := by decide +kernel
theorem dX2_rideFirst_8 : decode cX2_rideFirst 8 = .ok (.iconst 0, 1) := by decide +kernel
theorem dX2_rideFirst_9 : decode cX2_rideFirst 9 = .ok (.istore 4, 2) := by decide +kernel
theorem dX2_rideFirst_11 : decode cX2_rideFirst 11 = .ok (.iload 4, 2) := by decide +kernel
theorem dX2_rideFirst_13 : decode cX2_rideFirst 13 = .ok (.bipush 8, 2) := by decide +kernel
theorem dX2_rideFirst_15 : decode cX2_rideFirst 15 = .ok (.if_icmp .ge 63, 3) := by decide +kernel
theorem dX2_rideFirst_18 : decode cX2_rideFirst 18 = .ok (.aload_n 0, 1) := by decide +kernel
theorem dX2_rideFirst_19 : decode cX2_rideFirst 19 = .ok (.getfield 30, 3) := by decide +kernel
theorem dX2_rideFirst_22 : decode cX2_rideFirst 22 = .ok (.iload 4, 2) := by decide +kernel
theorem dX2_rideFirst_24 : decode cX2_rideFirst 24 = .ok (.iload_n 1, 1) := by decide +kernel
theorem dX2_rideFirst_25 : decode cX2_rideFirst 25 = .ok (.iconst 1, 1) := by decide +kernel
theorem dX2_rideFirst_26 : decode cX2_rideFirst 26 = .ok (.iadd, 1) := by decide +kernel
theorem dX2_rideFirst_27 : decode cX2_rideFirst 27 = .ok (.invokevirtual 109, 3) := by decide +kernel
theorem dX2_rideFirst_30 : decode cX2_rideFirst 30 = .ok (.ifCond .eq 42, 3) := by decide +kernel
theorem dX2_rideFirst_33 : decode cX2_rideFirst 33 = .ok (.aload_n 0, 1) := by decide +kernel
theorem dX2_rideFirst_34 : decode cX2_rideFirst 34 = .ok (.getfield 18, 3) := by decide +kernel
theorem dX2_rideFirst_37 : decode cX2_rideFirst 37 = .ok (.aload_n 0, 1) := by decide +kernel
theorem dX2_rideFirst_38 : decode cX2_rideFirst 38 = .ok (.getfield 22, 3) := by decide +kernel
theorem dX2_rideFirst_41 : decode cX2_rideFirst 41 = .ok (.iload 4, 2) := by decide +kernel
theorem dX2_rideFirst_43 : decode cX2_rideFirst 43 = .ok (.invokevirtual 114, 3) := by decide +kernel
theorem dX2_rideFirst_46 : decode cX2_rideFirst 46 = .ok (.ifCond .eq 26, 3) := by decide +kernel
theorem dX2_rideFirst_49 : decode cX2_rideFirst 49 = .ok (.aload_n 0, 1) := by decide +kernel
theorem dX2_rideFirst_50 : decode cX2_rideFirst 50 = .ok (.iload_n 1, 1) := by decide +kernel
theorem dX2_rideFirst_51 : decode cX2_rideFirst 51 = .ok (.iconst 1, 1) := by decide +kernel
theorem dX2_rideFirst_52 : decode cX2_rideFirst 52 = .ok (.iadd, 1) := by decide +kernel
theorem dX2_rideFirst_53 : decode cX2_rideFirst 53 = .ok (.invokestatic 39, 3) := by decide +kernel
theorem dX2_rideFirst_56 : decode cX2_rideFirst 56 = .ok (.lconst 0, 1) := by decide +kernel
theorem dX2_rideFirst_57 : decode cX2_rideFirst 57 = .ok (.lcmp, 1) := by decide +kernel
theorem dX2_rideFirst_58 : decode cX2_rideFirst 58 = .ok (.ifCond .le 6, 3) := by decide +kernel
theorem dX2_rideFirst_61 : decode cX2_rideFirst 61 = .ok (.iload 4, 2) := by decide +kernel
theorem dX2_rideFirst_63 : decode cX2_rideFirst 63 = .ok (.ireturn, 1) := by decide +kernel
theorem dX2_rideFirst_64 : decode cX2_rideFirst 64 = .ok (.aload_n 0, 1) := by decide +kernel
theorem dX2_rideFirst_65 : decode cX2_rideFirst 65 = .ok (.getfield 18, 3) := by decide +kernel
theorem dX2_rideFirst_68 : decode cX2_rideFirst 68 = .ok (.lload_n 2, 1) := by decide +kernel
theorem dX2_rideFirst_69 : decode cX2_rideFirst 69 = .ok (.invokevirtual 80, 3) := by decide +kernel
theorem dX2_rideFirst_72 : decode cX2_rideFirst 72 = .ok (.iinc 4 1, 3) := by decide +kernel
theorem dX2_rideFirst_75 : decode cX2_rideFirst 75 = .ok (.goto (-64), 3) := by decide +kernel
theorem dX2_rideFirst_78 : decode cX2_rideFirst 78 = .ok (.bipush (-4), 2) := by decide +kernel
theorem dX2_rideFirst_80 : decode cX2_rideFirst 80 = .ok (.ireturn, 1) := by decide +kernel
set_option maxRecDepth 20000 in
theorem ggX2_waysOn_X4_openTasks : GoodIn wsX2_waysOn wsX4_openTasks := goodIn_r _ [12, 13, 14, 120, 121, 122, 123, 124, 125] (by decide +kernel) (by decide +kernel)
set_option maxRecDepth 20000 in
theorem gX2_waysOn_X4_openTasks : GoodIn wsX2_waysOn (wsV RX2 118 RX4 yX4_openTasks wsX4_openTasks) := goodIn_app (goodIn_of _ (by decide +kernel)) ggX2_waysOn_X4_openTasks
set_option maxRecDepth 20000 in
theorem ggX2_waysOn_X3_isWithin : GoodIn wsX2_waysOn wsX3_isWithin := goodIn_r _ [19, 20, 126, 127, 128] (by decide +kernel) (by decide +kernel)
set_option maxRecDepth 20000 in
theorem gX2_waysOn_X3_isWithin : GoodIn wsX2_waysOn (wsV RX2 121 RX3 yX3_isWithin wsX3_isWithin) := goodIn_app (goodIn_of _ (by decide +kernel)) ggX2_waysOn_X3_isWithin
set_option maxRecDepth 20000 in
theorem ggX2_waysOn_X2_recall : GoodIn wsX2_waysOn wsX2_recall := goodIn_r _ [25, 26, 27, 28, 29, 30, 31, 24, 32, 33, 112, 113, 114, 115, 116, 117, 118, 119] (by decide +kernel) (by decide +kernel)
set_option maxRecDepth 20000 in
theorem gX2_waysOn_X2_recall : GoodIn wsX2_waysOn (wsV RX2 131 RX2 yX2_recall wsX2_recall) := goodIn_app (goodIn_of _ (by decide +kernel)) ggX2_waysOn_X2_recall
set_option maxRecDepth 20000 in
theorem ggX2_waysOn_X4_packed : GoodIn wsX2_waysOn wsX4_packed := goodIn_r _ [37, 13, 14, 38, 39, 40, 41, 120, 121, 122, 123, 124, 125] (by decide +kernel) (by decide +kernel)
set_option maxRecDepth 20000 in
theorem gX2_waysOn_X4_packed : GoodIn wsX2_waysOn (wsV RX2 76 RX4 yX4_packed wsX4_packed) := goodIn_app (goodIn_of _ (by decide +kernel)) ggX2_waysOn_X4_packed
set_option maxRecDepth 20000 in
theorem ggX2_waysOn_X3_leaves : GoodIn wsX2_waysOn wsX3_leaves := goodIn_r _ [45, 46, 47, 48, 49, 50, 51, 126, 127, 128] (by decide +kernel) (by decide +kernel)
set_option maxRecDepth 20000 in
theorem gX2_waysOn_X3_leaves : GoodIn wsX2_waysOn (wsV RX2 109 RX3 yX3_leaves wsX3_leaves) := goodIn_app (goodIn_of _ (by decide +kernel)) ggX2_waysOn_X3_leaves
set_option maxRecDepth 20000 in
theorem ggX2_waysOn_X4_tryRide : GoodIn wsX2_waysOn wsX4_tryRide := goodIn_r _ [55, 39, 41, 14, 13, 56, 57, 58, 11, 59, 60, 61, 62, 63, 64, 65, 9, 10, 12, 50, 48, 51, 66, 67, 68, 69, 70, 71, 72, 73, 74, 75, 38, 76, 77, 78, 79, 80, 81, 82, 83, 84, 85, 86, 87, 88, 89, 90, 91, 92, 93, 94, 95, 96, 97, 98, 99, 100, 101, 120, 121, 122, 123, 124, 125, 129, 130, 131, 132, 133, 134, 135, 136, 137, 138, 139, 140, 141, 142] (by decide +kernel) (by decide +kernel)
set_option maxRecDepth 20000 in
theorem gX2_waysOn_X4_tryRide : GoodIn wsX2_waysOn (wsV RX2 114 RX4 yX4_tryRide wsX4_tryRide) := goodIn_app (goodIn_of _ (by decide +kernel)) ggX2_waysOn_X4_tryRide
set_option maxRecDepth 20000 in
theorem ggX2_waysOn_X2_waysOn : GoodIn wsX2_waysOn wsX2_waysOn := goodIn_r _ [0, 1, 2, 3, 4, 5, 6, 7, 8, 9, 10, 11, 12, 13, 14, 15, 16, 17, 18, 19, 20, 21, 22, 23, 24, 25, 26, 27, 28, 29, 30, 31, 32, 33, 34, 35, 36, 37, 38, 39, 40, 41, 42, 43, 44, 45, 46, 47, 48, 49, 50, 51, 52, 53, 54, 55, 56, 57, 58, 59, 60, 61, 62, 63, 64, 65, 66, 67, 68, 69, 70, 71, 72, 73, 74, 75, 76, 77, 78, 79, 80, 81, 82, 83, 84, 85, 86, 87, 88, 89, 90, 91, 92, 93, 94, 95, 96, 97, 98, 99, 100, 101, 102, 103, 104, 105, 106, 107, 108, 109, 110, 111, 112, 113, 114, 115, 116, 117, 118, 119, 120, 121, 122, 123, 124, 125, 126, 127, 128, 129, 130, 131, 132, 133, 134, 135, 136, 137, 138, 139, 140, 141, 142] (by decide +kernel) (by decide +kernel)
set_option maxRecDepth 20000 in
theorem gX2_waysOn_X2_waysOn : GoodIn wsX2_waysOn (va_wsS RX2 39 yX2_waysOn wsX2_waysOn) := goodIn_app (goodIn_of _ (by decide +kernel)) ggX2_waysOn_X2_waysOn
set_option maxRecDepth 20000 in
theorem ggX2_waysOn_X4_unpack : GoodIn wsX2_waysOn wsX4_unpack := goodIn_r _ [107, 13, 14, 38, 39, 40, 41, 120, 121, 122, 123, 124, 125] (by decide +kernel) (by decide +kernel)
set_option maxRecDepth 20000 in
theorem gX2_waysOn_X4_unpack : GoodIn wsX2_waysOn (wsV RX2 80 RX4 yX4_unpack wsX4_unpack) := goodIn_app (goodIn_of _ (by decide +kernel)) ggX2_waysOn_X4_unpack
set_option maxRecDepth 20000 in
theorem ggX2_waysOn_X2_remember : GoodIn wsX2_waysOn wsX2_remember := goodIn_r _ [111, 26, 27, 30, 31, 24, 32, 33, 112, 113, 114, 115, 116, 117, 118, 119] (by decide +kernel) (by decide +kernel)
set_option maxRecDepth 20000 in
theorem gX2_waysOn_X2_remember : GoodIn wsX2_waysOn (wsV RX2 135 RX2 yX2_remember wsX2_remember) := goodIn_app (goodIn_of _ (by decide +kernel)) ggX2_waysOn_X2_remember
theorem dX2_waysOn_0 : decode cX2_waysOn 0 = .ok (.aload_n 0, 1) := by decide +kernel
theorem dX2_waysOn_1 : decode cX2_waysOn 1 = .ok (.getfield 18, 3) := by decide +kernel
theorem dX2_waysOn_4 : decode cX2_waysOn 4 = .ok (.astore_n 2, 1) := by decide +kernel
theorem dX2_waysOn_5 : decode cX2_waysOn 5 = .ok (.aload_n 0, 1) := by decide +kernel
theorem dX2_waysOn_6 : decode cX2_waysOn 6 = .ok (.getfield 105, 3) := by decide +kernel
theorem dX2_waysOn_9 : decode cX2_waysOn 9 = .ok (.ifCond .eq 5, 3) := by decide +kernel
theorem dX2_waysOn_12 : decode cX2_waysOn 12 = .ok (.lconst 0, 1) := by decide +kernel
theorem dX2_waysOn_13 : decode cX2_waysOn 13 = .ok (.lreturn, 1) := by decide +kernel
theorem dX2_waysOn_14 : decode cX2_waysOn 14 = .ok (.aload_n 2, 1) := by decide +kernel
theorem dX2_waysOn_15 : decode cX2_waysOn 15 = .ok (.invokevirtual 118, 3) := by decide +kernel
theorem dX2_waysOn_18 : decode cX2_waysOn 18 = .ok (.ifCond .ne 20, 3) := by decide +kernel
theorem dX2_waysOn_21 : decode cX2_waysOn 21 = .ok (.aload_n 0, 1) := by decide +kernel
theorem dX2_waysOn_22 : decode cX2_waysOn 22 = .ok (.getfield 30, 3) := by decide +kernel
theorem dX2_waysOn_25 : decode cX2_waysOn 25 = .ok (.iload_n 1, 1) := by decide +kernel
theorem dX2_waysOn_26 : decode cX2_waysOn 26 = .ok (.invokevirtual 121, 3) := by decide +kernel
theorem dX2_waysOn_29 : decode cX2_waysOn 29 = .ok (.ifCond .eq 7, 3) := by decide +kernel
theorem dX2_waysOn_32 : decode cX2_waysOn 32 = .ok (.lconst 1, 1) := by decide +kernel
theorem dX2_waysOn_33 : decode cX2_waysOn 33 = .ok (.goto 4, 3) := by decide +kernel
theorem dX2_waysOn_36 : decode cX2_waysOn 36 = .ok (.lconst 0, 1) := by decide +kernel
theorem dX2_waysOn_37 : decode cX2_waysOn 37 = .ok (.lreturn, 1) := by decide +kernel
theorem dX2_waysOn_38 : decode cX2_waysOn 38 = .ok (.iload_n 1, 1) := by decide +kernel
theorem dX2_waysOn_39 : decode cX2_waysOn 39 = .ok (.bipush 8, 2) := by decide +kernel
theorem dX2_waysOn_41 : decode cX2_waysOn 41 = .ok (.if_icmp .lt 5, 3) := by decide +kernel
theorem dX2_waysOn_44 : decode cX2_waysOn 44 = .ok (.lconst 0, 1) := by decide +kernel
theorem dX2_waysOn_45 : decode cX2_waysOn 45 = .ok (.lreturn, 1) := by decide +kernel
theorem dX2_waysOn_46 : decode cX2_waysOn 46 = .ok (.aload_n 2, 1) := by decide +kernel
theorem dX2_waysOn_47 : decode cX2_waysOn 47 = .ok (.getfield 125, 3) := by decide +kernel
theorem dX2_waysOn_50 : decode cX2_waysOn 50 = .ok (.sipush 128, 3) := by decide +kernel
theorem dX2_waysOn_53 : decode cX2_waysOn 53 = .ok (.imul, 1) := by decide +kernel
theorem dX2_waysOn_54 : decode cX2_waysOn 54 = .ok (.aload_n 2, 1) := by decide +kernel
theorem dX2_waysOn_55 : decode cX2_waysOn 55 = .ok (.getfield 128, 3) := by decide +kernel
theorem dX2_waysOn_58 : decode cX2_waysOn 58 = .ok (.iadd, 1) := by decide +kernel
theorem dX2_waysOn_59 : decode cX2_waysOn 59 = .ok (.istore_n 3, 1) := by decide +kernel
theorem dX2_waysOn_60 : decode cX2_waysOn 60 = .ok (.aload_n 0, 1) := by decide +kernel
theorem dX2_waysOn_61 : decode cX2_waysOn 61 = .ok (.iload_n 3, 1) := by decide +kernel
theorem dX2_waysOn_62 : decode cX2_waysOn 62 = .ok (.invokevirtual 131, 3) := by decide +kernel
theorem dX2_waysOn_65 : decode cX2_waysOn 65 = .ok (.lstore 4, 2) := by decide +kernel
theorem dX2_waysOn_67 : decode cX2_waysOn 67 = .ok (.lload 4, 2) := by decide +kernel
theorem dX2_waysOn_69 : decode cX2_waysOn 69 = .ok (.lconst 0, 1) := by decide +kernel
theorem dX2_waysOn_70 : decode cX2_waysOn 70 = .ok (.lcmp, 1) := by decide +kernel
theorem dX2_waysOn_71 : decode cX2_waysOn 71 = .ok (.ifCond .lt 6, 3) := by decide +kernel
theorem dX2_waysOn_74 : decode cX2_waysOn 74 = .ok (.lload 4, 2) := by decide +kernel
theorem dX2_waysOn_76 : decode cX2_waysOn 76 = .ok (.lreturn, 1) := by decide +kernel
theorem dX2_waysOn_77 : decode cX2_waysOn 77 = .ok (.lconst 0, 1) := by decide +kernel
theorem dX2_waysOn_78 : decode cX2_waysOn 78 = .ok (.lstore 4, 2) := by decide +kernel
theorem dX2_waysOn_80 : decode cX2_waysOn 80 = .ok (.aload_n 2, 1) := by decide +kernel
theorem dX2_waysOn_81 : decode cX2_waysOn 81 = .ok (.invokevirtual 76, 3) := by decide +kernel
theorem dX2_waysOn_84 : decode cX2_waysOn 84 = .ok (.lstore 6, 2) := by decide +kernel
theorem dX2_waysOn_86 : decode cX2_waysOn 86 = .ok (.iconst 0, 1) := by decide +kernel
theorem dX2_waysOn_87 : decode cX2_waysOn 87 = .ok (.istore 8, 2) := by decide +kernel
theorem dX2_waysOn_89 : decode cX2_waysOn 89 = .ok (.iload 8, 2) := by decide +kernel
theorem dX2_waysOn_91 : decode cX2_waysOn 91 = .ok (.bipush 8, 2) := by decide +kernel
theorem dX2_waysOn_93 : decode cX2_waysOn 93 = .ok (.if_icmp .ge 65, 3) := by decide +kernel
theorem dX2_waysOn_96 : decode cX2_waysOn 96 = .ok (.lload 4, 2) := by decide +kernel
theorem dX2_waysOn_98 : decode cX2_waysOn 98 = .ok (.aload_n 0, 1) := by decide +kernel
theorem dX2_waysOn_99 : decode cX2_waysOn 99 = .ok (.getfield 69, 3) := by decide +kernel
theorem dX2_waysOn_102 : decode cX2_waysOn 102 = .ok (.lcmp, 1) := by decide +kernel
theorem dX2_waysOn_103 : decode cX2_waysOn 103 = .ok (.ifCond .ge 55, 3) := by decide +kernel
theorem dX2_waysOn_106 : decode cX2_waysOn 106 = .ok (.aload_n 0, 1) := by decide +kernel
theorem dX2_waysOn_107 : decode cX2_waysOn 107 = .ok (.getfield 30, 3) := by decide +kernel
theorem dX2_waysOn_110 : decode cX2_waysOn 110 = .ok (.iload 8, 2) := by decide +kernel
theorem dX2_waysOn_112 : decode cX2_waysOn 112 = .ok (.iload_n 1, 1) := by decide +kernel
theorem dX2_waysOn_113 : decode cX2_waysOn 113 = .ok (.iconst 1, 1) := by decide +kernel
theorem dX2_waysOn_114 : decode cX2_waysOn 114 = .ok (.iadd, 1) := by decide +kernel
theorem dX2_waysOn_115 : decode cX2_waysOn 115 = .ok (.invokevirtual 109, 3) := by decide +kernel
theorem dX2_waysOn_118 : decode cX2_waysOn 118 = .ok (.ifCond .eq 34, 3) := by decide +kernel
theorem dX2_waysOn_121 : decode cX2_waysOn 121 = .ok (.aload_n 2, 1) := by decide +kernel
theorem dX2_waysOn_122 : decode cX2_waysOn 122 = .ok (.aload_n 0, 1) := by decide +kernel
theorem dX2_waysOn_123 : decode cX2_waysOn 123 = .ok (.getfield 22, 3) := by decide +kernel
theorem dX2_waysOn_126 : decode cX2_waysOn 126 = .ok (.iload 8, 2) := by decide +kernel
theorem dX2_waysOn_128 : decode cX2_waysOn 128 = .ok (.invokevirtual 114, 3) := by decide +kernel
theorem dX2_waysOn_131 : decode cX2_waysOn 131 = .ok (.ifCond .eq 21, 3) := by decide +kernel
theorem dX2_waysOn_134 : decode cX2_waysOn 134 = .ok (.lload 4, 2) := by decide +kernel
theorem dX2_waysOn_136 : decode cX2_waysOn 136 = .ok (.aload_n 0, 1) := by decide +kernel
theorem dX2_waysOn_137 : decode cX2_waysOn 137 = .ok (.iload_n 1, 1) := by decide +kernel
theorem dX2_waysOn_138 : decode cX2_waysOn 138 = .ok (.iconst 1, 1) := by decide +kernel
theorem dX2_waysOn_139 : decode cX2_waysOn 139 = .ok (.iadd, 1) := by decide +kernel
theorem dX2_waysOn_140 : decode cX2_waysOn 140 = .ok (.invokestatic 39, 3) := by decide +kernel
theorem dX2_waysOn_143 : decode cX2_waysOn 143 = .ok (.ladd, 1) := by decide +kernel
theorem dX2_waysOn_144 : decode cX2_waysOn 144 = .ok (.lstore 4, 2) := by decide +kernel
theorem dX2_waysOn_146 : decode cX2_waysOn 146 = .ok (.aload_n 2, 1) := by decide +kernel
theorem dX2_waysOn_147 : decode cX2_waysOn 147 = .ok (.lload 6, 2) := by decide +kernel
theorem dX2_waysOn_149 : decode cX2_waysOn 149 = .ok (.invokevirtual 80, 3) := by decide +kernel
theorem dX2_waysOn_152 : decode cX2_waysOn 152 = .ok (.iinc 8 1, 3) := by decide +kernel
theorem dX2_waysOn_155 : decode cX2_waysOn 155 = .ok (.goto (-66), 3) := by decide +kernel
theorem dX2_waysOn_158 : decode cX2_waysOn 158 = .ok (.aload_n 0, 1) := by decide +kernel
theorem dX2_waysOn_159 : decode cX2_waysOn 159 = .ok (.iload_n 3, 1) := by decide +kernel
theorem dX2_waysOn_160 : decode cX2_waysOn 160 = .ok (.lload 4, 2) := by decide +kernel
theorem dX2_waysOn_162 : decode cX2_waysOn 162 = .ok (.invokevirtual 135, 3) := by decide +kernel
theorem dX2_waysOn_165 : decode cX2_waysOn 165 = .ok (.lload 4, 2) := by decide +kernel
theorem dX2_waysOn_167 : decode cX2_waysOn 167 = .ok (.lreturn, 1) := by decide +kernel
set_option maxRecDepth 20000 in
theorem ggX2_recall_X2_cellOf : GoodIn wsX2_recall wsX2_cellOf := goodIn_r _ [8, 9] (by decide +kernel) (by decide +kernel)
set_option maxRecDepth 20000 in
theorem gX2_recall_X2_cellOf : GoodIn wsX2_recall (va_wsS RX2 139 yX2_cellOf wsX2_cellOf) := goodIn_app (goodIn_of _ (by decide +kernel)) ggX2_recall_X2_cellOf
theorem dX2_recall_0 : decode cX2_recall 0 = .ok (.iload_n 1, 1) := by decide +kernel
theorem dX2_recall_1 : decode cX2_recall 1 = .ok (.invokestatic 139, 3) := by decide +kernel
theorem dX2_recall_4 : decode cX2_recall 4 = .ok (.istore_n 2, 1) := by decide +kernel
theorem dX2_recall_5 : decode cX2_recall 5 = .ok (.iload_n 2, 1) := by decide +kernel
theorem dX2_recall_6 : decode cX2_recall 6 = .ok (.ifCond .lt 35, 3) := by decide +kernel
theorem dX2_recall_9 : decode cX2_recall 9 = .ok (.iload_n 2, 1) := by decide +kernel
theorem dX2_recall_10 : decode cX2_recall 10 = .ok (.aload_n 0, 1) := by decide +kernel
theorem dX2_recall_11 : decode cX2_recall 11 = .ok (.getfield 11, 3) := by decide +kernel
theorem dX2_recall_14 : decode cX2_recall 14 = .ok (.arraylength, 1) := by decide +kernel
theorem dX2_recall_15 : decode cX2_recall 15 = .ok (.if_icmp .ge 26, 3) := by decide +kernel
theorem dX2_recall_18 : decode cX2_recall 18 = .ok (.aload_n 0, 1) := by decide +kernel
theorem dX2_recall_19 : decode cX2_recall 19 = .ok (.getfield 11, 3) := by decide +kernel
theorem dX2_recall_22 : decode cX2_recall 22 = .ok (.iload_n 2, 1) := by decide +kernel
theorem dX2_recall_23 : decode cX2_recall 23 = .ok (.laload, 1) := by decide +kernel
theorem dX2_recall_24 : decode cX2_recall 24 = .ok (.bipush 16, 2) := by decide +kernel
theorem dX2_recall_26 : decode cX2_recall 26 = .ok (.lshr, 1) := by decide +kernel
theorem dX2_recall_27 : decode cX2_recall 27 = .ok (.aload_n 0, 1) := by decide +kernel
theorem dX2_recall_28 : decode cX2_recall 28 = .ok (.getfield 73, 3) := by decide +kernel
theorem dX2_recall_31 : decode cX2_recall 31 = .ok (.bipush 15, 2) := by decide +kernel
theorem dX2_recall_33 : decode cX2_recall 33 = .ok (.lshl, 1) := by decide +kernel
theorem dX2_recall_34 : decode cX2_recall 34 = .ok (.iload_n 1, 1) := by decide +kernel
theorem dX2_recall_35 : decode cX2_recall 35 = .ok (.i2l, 1) := by decide +kernel
theorem dX2_recall_36 : decode cX2_recall 36 = .ok (.lor, 1) := by decide +kernel
theorem dX2_recall_37 : decode cX2_recall 37 = .ok (.lcmp, 1) := by decide +kernel
theorem dX2_recall_38 : decode cX2_recall 38 = .ok (.ifCond .eq 7, 3) := by decide +kernel
theorem dX2_recall_41 : decode cX2_recall 41 = .ok (.ldc2_w 142, 3) := by decide +kernel
theorem dX2_recall_44 : decode cX2_recall 44 = .ok (.lreturn, 1) := by decide +kernel
theorem dX2_recall_45 : decode cX2_recall 45 = .ok (.aload_n 0, 1) := by decide +kernel
theorem dX2_recall_46 : decode cX2_recall 46 = .ok (.getfield 11, 3) := by decide +kernel
theorem dX2_recall_49 : decode cX2_recall 49 = .ok (.iload_n 2, 1) := by decide +kernel
theorem dX2_recall_50 : decode cX2_recall 50 = .ok (.laload, 1) := by decide +kernel
theorem dX2_recall_51 : decode cX2_recall 51 = .ok (.ldc2_w 144, 3) := by decide +kernel
theorem dX2_recall_54 : decode cX2_recall 54 = .ok (.land, 1) := by decide +kernel
theorem dX2_recall_55 : decode cX2_recall 55 = .ok (.lreturn, 1) := by decide +kernel
set_option maxRecDepth 20000 in
theorem ggX2_remember_X2_cellOf : GoodIn wsX2_remember wsX2_cellOf := goodIn_r _ [6, 7] (by decide +kernel) (by decide +kernel)
set_option maxRecDepth 20000 in
theorem gX2_remember_X2_cellOf : GoodIn wsX2_remember (va_wsS RX2 139 yX2_cellOf wsX2_cellOf) := goodIn_app (goodIn_of _ (by decide +kernel)) ggX2_remember_X2_cellOf
theorem dX2_remember_0 : decode cX2_remember 0 = .ok (.iload_n 1, 1) := by decide +kernel
theorem dX2_remember_1 : decode cX2_remember 1 = .ok (.invokestatic 139, 3) := by decide +kernel
theorem dX2_remember_4 : decode cX2_remember 4 = .ok (.istore 4, 2) := by decide +kernel
theorem dX2_remember_6 : decode cX2_remember 6 = .ok (.iload 4, 2) := by decide +kernel
theorem dX2_remember_8 : decode cX2_remember 8 = .ok (.ifCond .lt 35, 3) := by decide +kernel
theorem dX2_remember_11 : decode cX2_remember 11 = .ok (.iload 4, 2) := by decide +kernel
theorem dX2_remember_13 : decode cX2_remember 13 = .ok (.aload_n 0, 1) := by decide +kernel
theorem dX2_remember_14 : decode cX2_remember 14 = .ok (.getfield 11, 3) := by decide +kernel
theorem dX2_remember_17 : decode cX2_remember 17 = .ok (.arraylength, 1) := by decide +kernel
theorem dX2_remember_18 : decode cX2_remember 18 = .ok (.if_icmp .ge 25, 3) := by decide +kernel
theorem dX2_remember_21 : decode cX2_remember 21 = .ok (.aload_n 0, 1) := by decide +kernel
theorem dX2_remember_22 : decode cX2_remember 22 = .ok (.getfield 11, 3) := by decide +kernel
theorem dX2_remember_25 : decode cX2_remember 25 = .ok (.iload 4, 2) := by decide +kernel
theorem dX2_remember_27 : decode cX2_remember 27 = .ok (.aload_n 0, 1) := by decide +kernel
theorem dX2_remember_28 : decode cX2_remember 28 = .ok (.getfield 73, 3) := by decide +kernel
theorem dX2_remember_31 : decode cX2_remember 31 = .ok (.bipush 15, 2) := by decide +kernel
theorem dX2_remember_33 : decode cX2_remember 33 = .ok (.lshl, 1) := by decide +kernel
theorem dX2_remember_34 : decode cX2_remember 34 = .ok (.iload_n 1, 1) := by decide +kernel
theorem dX2_remember_35 : decode cX2_remember 35 = .ok (.i2l, 1) := by decide +kernel
theorem dX2_remember_36 : decode cX2_remember 36 = .ok (.lor, 1) := by decide +kernel
theorem dX2_remember_37 : decode cX2_remember 37 = .ok (.bipush 16, 2) := by decide +kernel
theorem dX2_remember_39 : decode cX2_remember 39 = .ok (.lshl, 1) := by decide +kernel
theorem dX2_remember_40 : decode cX2_remember 40 = .ok (.lload_n 2, 1) := by decide +kernel
theorem dX2_remember_41 : decode cX2_remember 41 = .ok (.lor, 1) := by decide +kernel
theorem dX2_remember_42 : decode cX2_remember 42 = .ok (.lastore, 1) := by decide +kernel
theorem dX2_remember_43 : decode cX2_remember 43 = .ok (.return_, 1) := by decide +kernel
theorem dX2_cellOf_0 : decode cX2_cellOf 0 = .ok (.iload_n 0, 1) := by decide +kernel
theorem dX2_cellOf_1 : decode cX2_cellOf 1 = .ok (.ldc 146, 2) := by decide +kernel
theorem dX2_cellOf_3 : decode cX2_cellOf 3 = .ok (.imul, 1) := by decide +kernel
theorem dX2_cellOf_4 : decode cX2_cellOf 4 = .ok (.iconst 4, 1) := by decide +kernel
theorem dX2_cellOf_5 : decode cX2_cellOf 5 = .ok (.ishr, 1) := by decide +kernel
theorem dX2_cellOf_6 : decode cX2_cellOf 6 = .ok (.sipush 4095, 3) := by decide +kernel
theorem dX2_cellOf_9 : decode cX2_cellOf 9 = .ok (.iand, 1) := by decide +kernel
theorem dX2_cellOf_10 : decode cX2_cellOf 10 = .ok (.ireturn, 1) := by decide +kernel
set_option maxRecDepth 20000 in
theorem ggX3_init_X3_clear : GoodIn wsX3_init wsX3_clear := goodIn_r _ [10, 11, 12, 5, 13, 14, 15, 16, 17, 18] (by decide +kernel) (by decide +kernel)
set_option maxRecDepth 20000 in
theorem gX3_init_X3_clear : GoodIn wsX3_init (wsV RX3 15 RX3 yX3_clear wsX3_clear) := goodIn_app (goodIn_of _ (by decide +kernel)) ggX3_init_X3_clear
theorem dX3_init_0 : decode cX3_init 0 = .ok (.aload_n 0, 1) := by decide +kernel
theorem dX3_init_1 : decode cX3_init 1 = .ok (.invokespecial 3, 3) := by decide +kernel
theorem dX3_init_4 : decode cX3_init 4 = .ok (.aload_n 0, 1) := by decide +kernel
theorem dX3_init_5 : decode cX3_init 5 = .ok (.bipush 8, 2) := by decide +kernel
theorem dX3_init_7 : decode cX3_init 7 = .ok (.newarray .int, 2) := by decide +kernel
theorem dX3_init_9 : decode cX3_init 9 = .ok (.putfield 9, 3) := by decide +kernel
theorem dX3_init_12 : decode cX3_init 12 = .ok (.aload_n 0, 1) := by decide +kernel
theorem dX3_init_13 : decode cX3_init 13 = .ok (.invokevirtual 15, 3) := by decide +kernel
theorem dX3_init_16 : decode cX3_init 16 = .ok (.return_, 1) := by decide +kernel
set_option maxRecDepth 20000 in
theorem ggX3_clear_X5_setNumber : GoodIn wsX3_clear wsX5_setNumber := goodIn_r _ [6] (by decide +kernel) (by decide +kernel)
set_option maxRecDepth 20000 in
theorem gX3_clear_X5_setNumber_n25 : GoodIn wsX3_clear (wsX5_setNumber) := ggX3_clear_X5_setNumber
theorem dX3_clear_0 : decode cX3_clear 0 = .ok (.aload_n 0, 1) := by decide +kernel
theorem dX3_clear_1 : decode cX3_clear 1 = .ok (.iconst 0, 1) := by decide +kernel
theorem dX3_clear_2 : decode cX3_clear 2 = .ok (.putfield 18, 3) := by decide +kernel
theorem dX3_clear_5 : decode cX3_clear 5 = .ok (.aload_n 0, 1) := by decide +kernel
theorem dX3_clear_6 : decode cX3_clear 6 = .ok (.iconst 0, 1) := by decide +kernel
theorem dX3_clear_7 : decode cX3_clear 7 = .ok (.putfield 22, 3) := by decide +kernel
theorem dX3_clear_10 : decode cX3_clear 10 = .ok (.iconst 0, 1) := by decide +kernel
theorem dX3_clear_11 : decode cX3_clear 11 = .ok (.istore_n 1, 1) := by decide +kernel
theorem dX3_clear_12 : decode cX3_clear 12 = .ok (.iload_n 1, 1) := by decide +kernel
theorem dX3_clear_13 : decode cX3_clear 13 = .ok (.bipush 8, 2) := by decide +kernel
theorem dX3_clear_15 : decode cX3_clear 15 = .ok (.if_icmp .ge 20, 3) := by decide +kernel
theorem dX3_clear_18 : decode cX3_clear 18 = .ok (.aload_n 0, 1) := by decide +kernel
theorem dX3_clear_19 : decode cX3_clear 19 = .ok (.getfield 9, 3) := by decide +kernel
theorem dX3_clear_22 : decode cX3_clear 22 = .ok (.iload_n 1, 1) := by decide +kernel
theorem dX3_clear_23 : decode cX3_clear 23 = .ok (.sipush 255, 3) := by decide +kernel
theorem dX3_clear_26 : decode cX3_clear 26 = .ok (.invokestatic 25, 3) := by decide +kernel
theorem dX3_clear_29 : decode cX3_clear 29 = .ok (.iinc 1 1, 3) := by decide +kernel
theorem dX3_clear_32 : decode cX3_clear 32 = .ok (.goto (-20), 3) := by decide +kernel
theorem dX3_clear_35 : decode cX3_clear 35 = .ok (.return_, 1) := by decide +kernel
set_option maxRecDepth 20000 in
theorem ggX3_add_X5_numberAt : GoodIn wsX3_add wsX5_numberAt := goodIn_r _ [10] (by decide +kernel) (by decide +kernel)
set_option maxRecDepth 20000 in
theorem gX3_add_X5_numberAt_n29 : GoodIn wsX3_add (wsX5_numberAt) := ggX3_add_X5_numberAt
set_option maxRecDepth 20000 in
theorem ggX3_add_X5_bit : GoodIn wsX3_add wsX5_bit := goodIn_r _ [12] (by decide +kernel) (by decide +kernel)
set_option maxRecDepth 20000 in
theorem gX3_add_X5_bit_n33 : GoodIn wsX3_add (wsX5_bit) := ggX3_add_X5_bit
set_option maxRecDepth 20000 in
theorem ggX3_add_X5_setNumber : GoodIn wsX3_add wsX5_setNumber := goodIn_r _ [14] (by decide +kernel) (by decide +kernel)
set_option maxRecDepth 20000 in
theorem gX3_add_X5_setNumber_n25 : GoodIn wsX3_add (wsX5_setNumber) := ggX3_add_X5_setNumber
theorem dX3_add_0 : decode cX3_add 0 = .ok (.aload_n 0, 1) := by decide +kernel
theorem dX3_add_1 : decode cX3_add 1 = .ok (.getfield 9, 3) := by decide +kernel
theorem dX3_add_4 : decode cX3_add 4 = .ok (.iload_n 2, 1) := by decide +kernel
theorem dX3_add_5 : decode cX3_add 5 = .ok (.iconst 1, 1) := by decide +kernel
theorem dX3_add_6 : decode cX3_add 6 = .ok (.isub, 1) := by decide +kernel
theorem dX3_add_7 : decode cX3_add 7 = .ok (.aload_n 0, 1) := by decide +kernel
theorem dX3_add_8 : decode cX3_add 8 = .ok (.getfield 9, 3) := by decide +kernel
theorem dX3_add_11 : decode cX3_add 11 = .ok (.iload_n 2, 1) := by decide +kernel
theorem dX3_add_12 : decode cX3_add 12 = .ok (.iconst 1, 1) := by decide +kernel
theorem dX3_add_13 : decode cX3_add 13 = .ok (.isub, 1) := by decide +kernel
theorem dX3_add_14 : decode cX3_add 14 = .ok (.invokestatic 29, 3) := by decide +kernel
theorem dX3_add_17 : decode cX3_add 17 = .ok (.iload_n 1, 1) := by decide +kernel
theorem dX3_add_18 : decode cX3_add 18 = .ok (.invokestatic 33, 3) := by decide +kernel
theorem dX3_add_21 : decode cX3_add 21 = .ok (.iand, 1) := by decide +kernel
theorem dX3_add_22 : decode cX3_add 22 = .ok (.invokestatic 25, 3) := by decide +kernel
theorem dX3_add_25 : decode cX3_add 25 = .ok (.aload_n 0, 1) := by decide +kernel
theorem dX3_add_26 : decode cX3_add 26 = .ok (.aload_n 0, 1) := by decide +kernel
theorem dX3_add_27 : decode cX3_add 27 = .ok (.getfield 22, 3) := by decide +kernel
theorem dX3_add_30 : decode cX3_add 30 = .ok (.iload_n 2, 1) := by decide +kernel
theorem dX3_add_31 : decode cX3_add 31 = .ok (.invokestatic 37, 3) := by decide +kernel
theorem dX3_add_34 : decode cX3_add 34 = .ok (.putfield 22, 3) := by decide +kernel
theorem dX3_add_37 : decode cX3_add 37 = .ok (.aload_n 0, 1) := by decide +kernel
theorem dX3_add_38 : decode cX3_add 38 = .ok (.dup, 1) := by decide +kernel
theorem dX3_add_39 : decode cX3_add 39 = .ok (.getfield 18, 3) := by decide +kernel
theorem dX3_add_42 : decode cX3_add 42 = .ok (.iconst 1, 1) := by decide +kernel
theorem dX3_add_43 : decode cX3_add 43 = .ok (.iadd, 1) := by decide +kernel
theorem dX3_add_44 : decode cX3_add 44 = .ok (.putfield 18, 3) := by decide +kernel
theorem dX3_add_47 : decode cX3_add 47 = .ok (.return_, 1) := by decide +kernel
set_option maxRecDepth 20000 in
theorem ggX3_leaves_X5_numberAt : GoodIn wsX3_leaves wsX5_numberAt := goodIn_r _ [4] (by decide +kernel) (by decide +kernel)
set_option maxRecDepth 20000 in
theorem gX3_leaves_X5_numberAt_n29 : GoodIn wsX3_leaves (wsX5_numberAt) := ggX3_leaves_X5_numberAt
set_option maxRecDepth 20000 in
theorem ggX3_leaves_X5_bit : GoodIn wsX3_leaves wsX5_bit := goodIn_r _ [6] (by decide +kernel) (by decide +kernel)
set_option maxRecDepth 20000 in
theorem gX3_leaves_X5_bit_n33 : GoodIn wsX3_leaves (wsX5_bit) := ggX3_leaves_X5_bit
theorem dX3_leaves_0 : decode cX3_leaves 0 = .ok (.aload_n 0, 1) := by decide +kernel
theorem dX3_leaves_1 : decode cX3_leaves 1 = .ok (.getfield 9, 3) := by decide +kernel
theorem dX3_leaves_4 : decode cX3_leaves 4 = .ok (.iload_n 2, 1) := by decide +kernel
theorem dX3_leaves_5 : decode cX3_leaves 5 = .ok (.iconst 1, 1) := by decide +kernel
theorem dX3_leaves_6 : decode cX3_leaves 6 = .ok (.isub, 1) := by decide +kernel
theorem dX3_leaves_7 : decode cX3_leaves 7 = .ok (.invokestatic 29, 3) := by decide +kernel
theorem dX3_leaves_10 : decode cX3_leaves 10 = .ok (.iload_n 1, 1) := by decide +kernel
theorem dX3_leaves_11 : decode cX3_leaves 11 = .ok (.invokestatic 33, 3) := by decide +kernel
theorem dX3_leaves_14 : decode cX3_leaves 14 = .ok (.iand, 1) := by decide +kernel
theorem dX3_leaves_15 : decode cX3_leaves 15 = .ok (.ifCond .eq 7, 3) := by decide +kernel
theorem dX3_leaves_18 : decode cX3_leaves 18 = .ok (.iconst 1, 1) := by decide +kernel
theorem dX3_leaves_19 : decode cX3_leaves 19 = .ok (.goto 4, 3) := by decide +kernel
theorem dX3_leaves_22 : decode cX3_leaves 22 = .ok (.iconst 0, 1) := by decide +kernel
theorem dX3_leaves_23 : decode cX3_leaves 23 = .ok (.ireturn, 1) := by decide +kernel
theorem dX3_isWithin_0 : decode cX3_isWithin 0 = .ok (.aload_n 0, 1) := by decide +kernel
theorem dX3_isWithin_1 : decode cX3_isWithin 1 = .ok (.getfield 22, 3) := by decide +kernel
theorem dX3_isWithin_4 : decode cX3_isWithin 4 = .ok (.iload_n 1, 1) := by decide +kernel
theorem dX3_isWithin_5 : decode cX3_isWithin 5 = .ok (.if_icmp .gt 7, 3) := by decide +kernel
theorem dX3_isWithin_8 : decode cX3_isWithin 8 = .ok (.iconst 1, 1) := by decide +kernel
theorem dX3_isWithin_9 : decode cX3_isWithin 9 = .ok (.goto 4, 3) := by decide +kernel
theorem dX3_isWithin_12 : decode cX3_isWithin 12 = .ok (.iconst 0, 1) := by decide +kernel
theorem dX3_isWithin_13 : decode cX3_isWithin 13 = .ok (.ireturn, 1) := by decide +kernel
theorem dX4_init_0 : decode cX4_init 0 = .ok (.aload_n 0, 1) := by decide +kernel
theorem dX4_init_1 : decode cX4_init 1 = .ok (.invokespecial 3, 3) := by decide +kernel
theorem dX4_init_4 : decode cX4_init 4 = .ok (.return_, 1) := by decide +kernel
theorem dX4_begin_0 : decode cX4_begin 0 = .ok (.aload_n 0, 1) := by decide +kernel
theorem dX4_begin_1 : decode cX4_begin 1 = .ok (.aload_n 1, 1) := by decide +kernel
theorem dX4_begin_2 : decode cX4_begin 2 = .ok (.getfield 9, 3) := by decide +kernel
theorem dX4_begin_5 : decode cX4_begin 5 = .ok (.putfield 15, 3) := by decide +kernel
theorem dX4_begin_8 : decode cX4_begin 8 = .ok (.aload_n 0, 1) := by decide +kernel
theorem dX4_begin_9 : decode cX4_begin 9 = .ok (.iconst 0, 1) := by decide +kernel
theorem dX4_begin_10 : decode cX4_begin 10 = .ok (.putfield 20, 3) := by decide +kernel
theorem dX4_begin_13 : decode cX4_begin 13 = .ok (.aload_n 0, 1) := by decide +kernel
theorem dX4_begin_14 : decode cX4_begin 14 = .ok (.iconst 0, 1) := by decide +kernel
theorem dX4_begin_15 : decode cX4_begin 15 = .ok (.putfield 23, 3) := by decide +kernel
theorem dX4_begin_18 : decode cX4_begin 18 = .ok (.aload_n 0, 1) := by decide +kernel
theorem dX4_begin_19 : decode cX4_begin 19 = .ok (.iconst 0, 1) := by decide +kernel
theorem dX4_begin_20 : decode cX4_begin 20 = .ok (.putfield 26, 3) := by decide +kernel
theorem dX4_begin_23 : decode cX4_begin 23 = .ok (.aload_n 0, 1) := by decide +kernel
theorem dX4_begin_24 : decode cX4_begin 24 = .ok (.aload_n 1, 1) := by decide +kernel
theorem dX4_begin_25 : decode cX4_begin 25 = .ok (.getfield 29, 3) := by decide +kernel
theorem dX4_begin_28 : decode cX4_begin 28 = .ok (.putfield 32, 3) := by decide +kernel
theorem dX4_begin_31 : decode cX4_begin 31 = .ok (.aload_n 0, 1) := by decide +kernel
theorem dX4_begin_32 : decode cX4_begin 32 = .ok (.iconst 0, 1) := by decide +kernel
theorem dX4_begin_33 : decode cX4_begin 33 = .ok (.putfield 35, 3) := by decide +kernel
theorem dX4_begin_36 : decode cX4_begin 36 = .ok (.return_, 1) := by decide +kernel
theorem dX4_packed_0 : decode cX4_packed 0 = .ok (.aload_n 0, 1) := by decide +kernel
theorem dX4_packed_1 : decode cX4_packed 1 = .ok (.getfield 15, 3) := by decide +kernel
theorem dX4_packed_4 : decode cX4_packed 4 = .ok (.aload_n 0, 1) := by decide +kernel
theorem dX4_packed_5 : decode cX4_packed 5 = .ok (.getfield 20, 3) := by decide +kernel
theorem dX4_packed_8 : decode cX4_packed 8 = .ok (.bipush 8, 2) := by decide +kernel
theorem dX4_packed_10 : decode cX4_packed 10 = .ok (.ishl, 1) := by decide +kernel
theorem dX4_packed_11 : decode cX4_packed 11 = .ok (.ior, 1) := by decide +kernel
theorem dX4_packed_12 : decode cX4_packed 12 = .ok (.i2l, 1) := by decide +kernel
theorem dX4_packed_13 : decode cX4_packed 13 = .ok (.lstore_n 1, 1) := by decide +kernel
theorem dX4_packed_14 : decode cX4_packed 14 = .ok (.aload_n 0, 1) := by decide +kernel
theorem dX4_packed_15 : decode cX4_packed 15 = .ok (.getfield 23, 3) := by decide +kernel
theorem dX4_packed_18 : decode cX4_packed 18 = .ok (.aload_n 0, 1) := by decide +kernel
theorem dX4_packed_19 : decode cX4_packed 19 = .ok (.getfield 26, 3) := by decide +kernel
theorem dX4_packed_22 : decode cX4_packed 22 = .ok (.bipush 7, 2) := by decide +kernel
theorem dX4_packed_24 : decode cX4_packed 24 = .ok (.ishl, 1) := by decide +kernel
theorem dX4_packed_25 : decode cX4_packed 25 = .ok (.ior, 1) := by decide +kernel
theorem dX4_packed_26 : decode cX4_packed 26 = .ok (.i2l, 1) := by decide +kernel
theorem dX4_packed_27 : decode cX4_packed 27 = .ok (.lstore_n 3, 1) := by decide +kernel
theorem dX4_packed_28 : decode cX4_packed 28 = .ok (.lload_n 1, 1) := by decide +kernel
theorem dX4_packed_29 : decode cX4_packed 29 = .ok (.lload_n 3, 1) := by decide +kernel
theorem dX4_packed_30 : decode cX4_packed 30 = .ok (.bipush 16, 2) := by decide +kernel
theorem dX4_packed_32 : decode cX4_packed 32 = .ok (.lshl, 1) := by decide +kernel
theorem dX4_packed_33 : decode cX4_packed 33 = .ok (.lor, 1) := by decide +kernel
theorem dX4_packed_34 : decode cX4_packed 34 = .ok (.aload_n 0, 1) := by decide +kernel
theorem dX4_packed_35 : decode cX4_packed 35 = .ok (.getfield 32, 3) := by decide +kernel
theorem dX4_packed_38 : decode cX4_packed 38 = .ok (.i2l, 1) := by decide +kernel
theorem dX4_packed_39 : decode cX4_packed 39 = .ok (.bipush 30, 2) := by decide +kernel
theorem dX4_packed_41 : decode cX4_packed 41 = .ok (.lshl, 1) := by decide +kernel
theorem dX4_packed_42 : decode cX4_packed 42 = .ok (.lor, 1) := by decide +kernel
theorem dX4_packed_43 : decode cX4_packed 43 = .ok (.aload_n 0, 1) := by decide +kernel
theorem dX4_packed_44 : decode cX4_packed 44 = .ok (.getfield 35, 3) := by decide +kernel
theorem dX4_packed_47 : decode cX4_packed 47 = .ok (.i2l, 1) := by decide +kernel
theorem dX4_packed_48 : decode cX4_packed 48 = .ok (.bipush 37, 2) := by decide +kernel
theorem dX4_packed_50 : decode cX4_packed 50 = .ok (.lshl, 1) := by decide +kernel
theorem dX4_packed_51 : decode cX4_packed 51 = .ok (.lor, 1) := by decide +kernel
theorem dX4_packed_52 : decode cX4_packed 52 = .ok (.lreturn, 1) := by decide +kernel
theorem dX4_unpack_0 : decode cX4_unpack 0 = .ok (.aload_n 0, 1) := by decide +kernel
theorem dX4_unpack_1 : decode cX4_unpack 1 = .ok (.lload_n 1, 1) := by decide +kernel
theorem dX4_unpack_2 : decode cX4_unpack 2 = .ok (.l2i, 1) := by decide +kernel
theorem dX4_unpack_3 : decode cX4_unpack 3 = .ok (.sipush 255, 3) := by decide +kernel
theorem dX4_unpack_6 : decode cX4_unpack 6 = .ok (.iand, 1) := by decide +kernel
theorem dX4_unpack_7 : decode cX4_unpack 7 = .ok (.putfield 15, 3) := by decide +kernel
theorem dX4_unpack_10 : decode cX4_unpack 10 = .ok (.aload_n 0, 1) := by decide +kernel
theorem dX4_unpack_11 : decode cX4_unpack 11 = .ok (.lload_n 1, 1) := by decide +kernel
theorem dX4_unpack_12 : decode cX4_unpack 12 = .ok (.bipush 8, 2) := by decide +kernel
theorem dX4_unpack_14 : decode cX4_unpack 14 = .ok (.lshr, 1) := by decide +kernel
theorem dX4_unpack_15 : decode cX4_unpack 15 = .ok (.l2i, 1) := by decide +kernel
theorem dX4_unpack_16 : decode cX4_unpack 16 = .ok (.sipush 255, 3) := by decide +kernel
theorem dX4_unpack_19 : decode cX4_unpack 19 = .ok (.iand, 1) := by decide +kernel
theorem dX4_unpack_20 : decode cX4_unpack 20 = .ok (.putfield 20, 3) := by decide +kernel
theorem dX4_unpack_23 : decode cX4_unpack 23 = .ok (.aload_n 0, 1) := by decide +kernel
theorem dX4_unpack_24 : decode cX4_unpack 24 = .ok (.lload_n 1, 1) := by decide +kernel
theorem dX4_unpack_25 : decode cX4_unpack 25 = .ok (.bipush 16, 2) := by decide +kernel
theorem dX4_unpack_27 : decode cX4_unpack 27 = .ok (.lshr, 1) := by decide +kernel
theorem dX4_unpack_28 : decode cX4_unpack 28 = .ok (.l2i, 1) := by decide +kernel
theorem dX4_unpack_29 : decode cX4_unpack 29 = .ok (.bipush 127, 2) := by decide +kernel
theorem dX4_unpack_31 : decode cX4_unpack 31 = .ok (.iand, 1) := by decide +kernel
theorem dX4_unpack_32 : decode cX4_unpack 32 = .ok (.putfield 23, 3) := by decide +kernel
theorem dX4_unpack_35 : decode cX4_unpack 35 = .ok (.aload_n 0, 1) := by decide +kernel
theorem dX4_unpack_36 : decode cX4_unpack 36 = .ok (.lload_n 1, 1) := by decide +kernel
theorem dX4_unpack_37 : decode cX4_unpack 37 = .ok (.bipush 23, 2) := by decide +kernel
theorem dX4_unpack_39 : decode cX4_unpack 39 = .ok (.lshr, 1) := by decide +kernel
theorem dX4_unpack_40 : decode cX4_unpack 40 = .ok (.l2i, 1) := by decide +kernel
theorem dX4_unpack_41 : decode cX4_unpack 41 = .ok (.bipush 127, 2) := by decide +kernel
theorem dX4_unpack_43 : decode cX4_unpack 43 = .ok (.iand, 1) := by decide +kernel
theorem dX4_unpack_44 : decode cX4_unpack 44 = .ok (.putfield 26, 3) := by decide +kernel
theorem dX4_unpack_47 : decode cX4_unpack 47 = .ok (.aload_n 0, 1) := by decide +kernel
theorem dX4_unpack_48 : decode cX4_unpack 48 = .ok (.lload_n 1, 1) := by decide +kernel
theorem dX4_unpack_49 : decode cX4_unpack 49 = .ok (.bipush 30, 2) := by decide +kernel
theorem dX4_unpack_51 : decode cX4_unpack 51 = .ok (.lshr, 1) := by decide +kernel
theorem dX4_unpack_52 : decode cX4_unpack 52 = .ok (.l2i, 1) := by decide +kernel
theorem dX4_unpack_53 : decode cX4_unpack 53 = .ok (.bipush 127, 2) := by decide +kernel
theorem dX4_unpack_55 : decode cX4_unpack 55 = .ok (.iand, 1) := by decide +kernel
theorem dX4_unpack_56 : decode cX4_unpack 56 = .ok (.putfield 32, 3) := by decide +kernel
theorem dX4_unpack_59 : decode cX4_unpack 59 = .ok (.aload_n 0, 1) := by decide +kernel
theorem dX4_unpack_60 : decode cX4_unpack 60 = .ok (.lload_n 1, 1) := by decide +kernel
theorem dX4_unpack_61 : decode cX4_unpack 61 = .ok (.bipush 37, 2) := by decide +kernel
theorem dX4_unpack_63 : decode cX4_unpack 63 = .ok (.lshr, 1) := by decide +kernel
theorem dX4_unpack_64 : decode cX4_unpack 64 = .ok (.l2i, 1) := by decide +kernel
theorem dX4_unpack_65 : decode cX4_unpack 65 = .ok (.bipush 127, 2) := by decide +kernel
theorem dX4_unpack_67 : decode cX4_unpack 67 = .ok (.iand, 1) := by decide +kernel
theorem dX4_unpack_68 : decode cX4_unpack 68 = .ok (.putfield 35, 3) := by decide +kernel
theorem dX4_unpack_71 : decode cX4_unpack 71 = .ok (.return_, 1) := by decide +kernel
theorem dX4_isLost_0 : decode cX4_isLost 0 = .ok (.aload_n 0, 1) := by decide +kernel
theorem dX4_isLost_1 : decode cX4_isLost 1 = .ok (.getfield 35, 3) := by decide +kernel
theorem dX4_isLost_4 : decode cX4_isLost 4 = .ok (.aload_n 1, 1) := by decide +kernel
theorem dX4_isLost_5 : decode cX4_isLost 5 = .ok (.getfield 38, 3) := by decide +kernel
theorem dX4_isLost_8 : decode cX4_isLost 8 = .ok (.if_icmp .le 7, 3) := by decide +kernel
theorem dX4_isLost_11 : decode cX4_isLost 11 = .ok (.iconst 1, 1) := by decide +kernel
theorem dX4_isLost_12 : decode cX4_isLost 12 = .ok (.goto 4, 3) := by decide +kernel
theorem dX4_isLost_15 : decode cX4_isLost 15 = .ok (.iconst 0, 1) := by decide +kernel
theorem dX4_isLost_16 : decode cX4_isLost 16 = .ok (.ireturn, 1) := by decide +kernel
theorem dX4_openTasks_0 : decode cX4_openTasks 0 = .ok (.aload_n 0, 1) := by decide +kernel
theorem dX4_openTasks_1 : decode cX4_openTasks 1 = .ok (.getfield 15, 3) := by decide +kernel
theorem dX4_openTasks_4 : decode cX4_openTasks 4 = .ok (.aload_n 0, 1) := by decide +kernel
theorem dX4_openTasks_5 : decode cX4_openTasks 5 = .ok (.getfield 20, 3) := by decide +kernel
theorem dX4_openTasks_8 : decode cX4_openTasks 8 = .ok (.iconst (-1), 1) := by decide +kernel
theorem dX4_openTasks_9 : decode cX4_openTasks 9 = .ok (.ixor, 1) := by decide +kernel
theorem dX4_openTasks_10 : decode cX4_openTasks 10 = .ok (.iand, 1) := by decide +kernel
theorem dX4_openTasks_11 : decode cX4_openTasks 11 = .ok (.ireturn, 1) := by decide +kernel
theorem dX4_freeFriends_0 : decode cX4_freeFriends 0 = .ok (.aload_n 0, 1) := by decide +kernel
theorem dX4_freeFriends_1 : decode cX4_freeFriends 1 = .ok (.getfield 23, 3) := by decide +kernel
theorem dX4_freeFriends_4 : decode cX4_freeFriends 4 = .ok (.aload_n 0, 1) := by decide +kernel
theorem dX4_freeFriends_5 : decode cX4_freeFriends 5 = .ok (.getfield 26, 3) := by decide +kernel
theorem dX4_freeFriends_8 : decode cX4_freeFriends 8 = .ok (.iconst (-1), 1) := by decide +kernel
theorem dX4_freeFriends_9 : decode cX4_freeFriends 9 = .ok (.ixor, 1) := by decide +kernel
theorem dX4_freeFriends_10 : decode cX4_freeFriends 10 = .ok (.iand, 1) := by decide +kernel
theorem dX4_freeFriends_11 : decode cX4_freeFriends 11 = .ok (.ireturn, 1) := by decide +kernel
set_option maxRecDepth 20000 in
theorem ggX4_helpersFor_X4_isLost : GoodIn wsX4_helpersFor wsX4_isLost := goodIn_r _ [6, 1, 7, 45, 46, 47, 48, 49, 50, 51, 52, 53, 54, 55, 56, 57, 58, 59, 60, 61, 62, 63, 64] (by decide +kernel) (by decide +kernel)
set_option maxRecDepth 20000 in
theorem gX4_helpersFor_X4_isLost : GoodIn wsX4_helpersFor (wsV RX4 41 RX4 yX4_isLost wsX4_isLost) := goodIn_app (goodIn_of _ (by decide +kernel)) ggX4_helpersFor_X4_isLost
set_option maxRecDepth 20000 in
theorem ggX4_helpersFor_X4_openTasks : GoodIn wsX4_helpersFor wsX4_openTasks := goodIn_r _ [11, 12, 13, 45, 46, 47, 48, 49, 50] (by decide +kernel) (by decide +kernel)
set_option maxRecDepth 20000 in
theorem gX4_helpersFor_X4_openTasks : GoodIn wsX4_helpersFor (wsV RX4 45 RX4 yX4_openTasks wsX4_openTasks) := goodIn_app (goodIn_of _ (by decide +kernel)) ggX4_helpersFor_X4_openTasks
set_option maxRecDepth 20000 in
theorem ggX4_helpersFor_X5_bit : GoodIn wsX4_helpersFor wsX5_bit := goodIn_r _ [16] (by decide +kernel) (by decide +kernel)
set_option maxRecDepth 20000 in
theorem gX4_helpersFor_X5_bit_n49 : GoodIn wsX4_helpersFor (wsX5_bit) := ggX4_helpersFor_X5_bit
set_option maxRecDepth 20000 in
theorem ggX4_helpersFor_X0_helpKindOf : GoodIn wsX4_helpersFor wsX0_helpKindOf := goodIn_r _ [21, 22, 51, 52, 53, 54, 55, 56, 57, 58, 59, 60, 61, 62, 63, 64] (by decide +kernel) (by decide +kernel)
set_option maxRecDepth 20000 in
theorem gX4_helpersFor_X0_helpKindOf : GoodIn wsX4_helpersFor (wsV RX4 53 RX0 yX0_helpKindOf wsX0_helpKindOf) := goodIn_app (goodIn_of _ (by decide +kernel)) ggX4_helpersFor_X0_helpKindOf
set_option maxRecDepth 20000 in
theorem ggX4_helpersFor_X4_freeFriends : GoodIn wsX4_helpersFor wsX4_freeFriends := goodIn_r _ [26, 27, 28, 45, 46, 47, 48, 49, 50] (by decide +kernel) (by decide +kernel)
set_option maxRecDepth 20000 in
theorem gX4_helpersFor_X4_freeFriends : GoodIn wsX4_helpersFor (wsV RX4 56 RX4 yX4_freeFriends wsX4_freeFriends) := goodIn_app (goodIn_of _ (by decide +kernel)) ggX4_helpersFor_X4_freeFriends
set_option maxRecDepth 20000 in
theorem ggX4_helpersFor_X0_helpersOf : GoodIn wsX4_helpersFor wsX0_helpersOf := goodIn_r _ [32, 33, 51, 52, 53, 54, 55, 56, 57, 58, 59, 60, 61, 62, 63, 64] (by decide +kernel) (by decide +kernel)
set_option maxRecDepth 20000 in
theorem gX4_helpersFor_X0_helpersOf : GoodIn wsX4_helpersFor (wsV RX4 59 RX0 yX0_helpersOf wsX0_helpersOf) := goodIn_app (goodIn_of _ (by decide +kernel)) ggX4_helpersFor_X0_helpersOf
set_option maxRecDepth 20000 in
theorem ggX4_helpersFor_X4_lowestOf : GoodIn wsX4_helpersFor wsX4_lowestOf := goodIn_r _ [36] (by decide +kernel) (by decide +kernel)
set_option maxRecDepth 20000 in
theorem gX4_helpersFor_X4_lowestOf : GoodIn wsX4_helpersFor (va_wsS RX4 62 yX4_lowestOf wsX4_lowestOf) := goodIn_app (goodIn_of _ (by decide +kernel)) ggX4_helpersFor_X4_lowestOf
set_option maxRecDepth 20000 in
theorem ggX4_helpersFor_X0_kindOf : GoodIn wsX4_helpersFor wsX0_kindOf := goodIn_r _ [40, 41, 51, 52, 53, 54, 55, 56, 57, 58, 59, 60, 61, 62, 63, 64] (by decide +kernel) (by decide +kernel)
set_option maxRecDepth 20000 in
theorem gX4_helpersFor_X0_kindOf : GoodIn wsX4_helpersFor (wsV RX4 65 RX0 yX0_kindOf wsX0_kindOf) := goodIn_app (goodIn_of _ (by decide +kernel)) ggX4_helpersFor_X0_kindOf
set_option maxRecDepth 20000 in
theorem ggX4_helpersFor_X4_withOneMore : GoodIn wsX4_helpersFor wsX4_withOneMore := goodIn_r _ [44] (by decide +kernel) (by decide +kernel)
set_option maxRecDepth 20000 in
theorem gX4_helpersFor_X4_withOneMore : GoodIn wsX4_helpersFor (va_wsS RX4 68 yX4_withOneMore wsX4_withOneMore) := goodIn_app (goodIn_of _ (by decide +kernel)) ggX4_helpersFor_X4_withOneMore
theorem dX4_helpersFor_0 : decode cX4_helpersFor 0 = .ok (.aload_n 0, 1) := by decide +kernel
theorem dX4_helpersFor_1 : decode cX4_helpersFor 1 = .ok (.aload_n 1, 1) := by decide +kernel
theorem dX4_helpersFor_2 : decode cX4_helpersFor 2 = .ok (.invokevirtual 41, 3) := by decide +kernel
theorem dX4_helpersFor_5 : decode cX4_helpersFor 5 = .ok (.ifCond .ne 15, 3) := by decide +kernel
theorem dX4_helpersFor_8 : decode cX4_helpersFor 8 = .ok (.aload_n 0, 1) := by decide +kernel
theorem dX4_helpersFor_9 : decode cX4_helpersFor 9 = .ok (.invokevirtual 45, 3) := by decide +kernel
theorem dX4_helpersFor_12 : decode cX4_helpersFor 12 = .ok (.iload_n 2, 1) := by decide +kernel
theorem dX4_helpersFor_13 : decode cX4_helpersFor 13 = .ok (.invokestatic 49, 3) := by decide +kernel
theorem dX4_helpersFor_16 : decode cX4_helpersFor 16 = .ok (.iand, 1) := by decide +kernel
theorem dX4_helpersFor_17 : decode cX4_helpersFor 17 = .ok (.ifCond .ne 6, 3) := by decide +kernel
theorem dX4_helpersFor_20 : decode cX4_helpersFor 20 = .ok (.bipush (-2), 2) := by decide +kernel
theorem dX4_helpersFor_22 : decode cX4_helpersFor 22 = .ok (.ireturn, 1) := by decide +kernel
theorem dX4_helpersFor_23 : decode cX4_helpersFor 23 = .ok (.aload_n 1, 1) := by decide +kernel
theorem dX4_helpersFor_24 : decode cX4_helpersFor 24 = .ok (.iload_n 2, 1) := by decide +kernel
theorem dX4_helpersFor_25 : decode cX4_helpersFor 25 = .ok (.invokevirtual 53, 3) := by decide +kernel
theorem dX4_helpersFor_28 : decode cX4_helpersFor 28 = .ok (.istore_n 3, 1) := by decide +kernel
theorem dX4_helpersFor_29 : decode cX4_helpersFor 29 = .ok (.aload_n 0, 1) := by decide +kernel
theorem dX4_helpersFor_30 : decode cX4_helpersFor 30 = .ok (.invokevirtual 56, 3) := by decide +kernel
theorem dX4_helpersFor_33 : decode cX4_helpersFor 33 = .ok (.istore 4, 2) := by decide +kernel
theorem dX4_helpersFor_35 : decode cX4_helpersFor 35 = .ok (.iload 4, 2) := by decide +kernel
theorem dX4_helpersFor_37 : decode cX4_helpersFor 37 = .ok (.aload_n 1, 1) := by decide +kernel
theorem dX4_helpersFor_38 : decode cX4_helpersFor 38 = .ok (.iload_n 3, 1) := by decide +kernel
theorem dX4_helpersFor_39 : decode cX4_helpersFor 39 = .ok (.invokevirtual 59, 3) := by decide +kernel
theorem dX4_helpersFor_42 : decode cX4_helpersFor 42 = .ok (.iand, 1) := by decide +kernel
theorem dX4_helpersFor_43 : decode cX4_helpersFor 43 = .ok (.istore 5, 2) := by decide +kernel
theorem dX4_helpersFor_45 : decode cX4_helpersFor 45 = .ok (.iload_n 3, 1) := by decide +kernel
theorem dX4_helpersFor_46 : decode cX4_helpersFor 46 = .ok (.iconst 5, 1) := by decide +kernel
theorem dX4_helpersFor_47 : decode cX4_helpersFor 47 = .ok (.if_icmp .ne 7, 3) := by decide +kernel
theorem dX4_helpersFor_50 : decode cX4_helpersFor 50 = .ok (.iconst 0, 1) := by decide +kernel
theorem dX4_helpersFor_51 : decode cX4_helpersFor 51 = .ok (.goto 8, 3) := by decide +kernel
theorem dX4_helpersFor_54 : decode cX4_helpersFor 54 = .ok (.iload 5, 2) := by decide +kernel
theorem dX4_helpersFor_56 : decode cX4_helpersFor 56 = .ok (.invokestatic 62, 3) := by decide +kernel
theorem dX4_helpersFor_59 : decode cX4_helpersFor 59 = .ok (.istore 6, 2) := by decide +kernel
theorem dX4_helpersFor_61 : decode cX4_helpersFor 61 = .ok (.aload_n 1, 1) := by decide +kernel
theorem dX4_helpersFor_62 : decode cX4_helpersFor 62 = .ok (.iload_n 2, 1) := by decide +kernel
theorem dX4_helpersFor_63 : decode cX4_helpersFor 63 = .ok (.invokevirtual 65, 3) := by decide +kernel
theorem dX4_helpersFor_66 : decode cX4_helpersFor 66 = .ok (.tableswitch 81 0 4 #[34, 37, 54, 56, 64], 34) := by decide +kernel
theorem dX4_helpersFor_100 : decode cX4_helpersFor 100 = .ok (.iload 6, 2) := by decide +kernel
theorem dX4_helpersFor_102 : decode cX4_helpersFor 102 = .ok (.ireturn, 1) := by decide +kernel
theorem dX4_helpersFor_103 : decode cX4_helpersFor 103 = .ok (.iload_n 3, 1) := by decide +kernel
theorem dX4_helpersFor_104 : decode cX4_helpersFor 104 = .ok (.iconst 5, 1) := by decide +kernel
theorem dX4_helpersFor_105 : decode cX4_helpersFor 105 = .ok (.if_icmp .ne 7, 3) := by decide +kernel
theorem dX4_helpersFor_108 : decode cX4_helpersFor 108 = .ok (.iconst 0, 1) := by decide +kernel
theorem dX4_helpersFor_109 : decode cX4_helpersFor 109 = .ok (.goto 10, 3) := by decide +kernel
theorem dX4_helpersFor_112 : decode cX4_helpersFor 112 = .ok (.iload 6, 2) := by decide +kernel
theorem dX4_helpersFor_114 : decode cX4_helpersFor 114 = .ok (.iload 5, 2) := by decide +kernel
theorem dX4_helpersFor_116 : decode cX4_helpersFor 116 = .ok (.invokestatic 68, 3) := by decide +kernel
theorem dX4_helpersFor_119 : decode cX4_helpersFor 119 = .ok (.ireturn, 1) := by decide +kernel
theorem dX4_helpersFor_120 : decode cX4_helpersFor 120 = .ok (.iconst 0, 1) := by decide +kernel
theorem dX4_helpersFor_121 : decode cX4_helpersFor 121 = .ok (.ireturn, 1) := by decide +kernel
theorem dX4_helpersFor_122 : decode cX4_helpersFor 122 = .ok (.iload 6, 2) := by decide +kernel
theorem dX4_helpersFor_124 : decode cX4_helpersFor 124 = .ok (.iload 4, 2) := by decide +kernel
theorem dX4_helpersFor_126 : decode cX4_helpersFor 126 = .ok (.invokestatic 68, 3) := by decide +kernel
theorem dX4_helpersFor_129 : decode cX4_helpersFor 129 = .ok (.ireturn, 1) := by decide +kernel
theorem dX4_helpersFor_130 : decode cX4_helpersFor 130 = .ok (.aload_n 0, 1) := by decide +kernel
theorem dX4_helpersFor_131 : decode cX4_helpersFor 131 = .ok (.getfield 35, 3) := by decide +kernel
theorem dX4_helpersFor_134 : decode cX4_helpersFor 134 = .ok (.bipush 10, 2) := by decide +kernel
theorem dX4_helpersFor_136 : decode cX4_helpersFor 136 = .ok (.if_icmp .le 8, 3) := by decide +kernel
theorem dX4_helpersFor_139 : decode cX4_helpersFor 139 = .ok (.bipush (-2), 2) := by decide +kernel
theorem dX4_helpersFor_141 : decode cX4_helpersFor 141 = .ok (.goto 5, 3) := by decide +kernel
theorem dX4_helpersFor_144 : decode cX4_helpersFor 144 = .ok (.iload 6, 2) := by decide +kernel
theorem dX4_helpersFor_146 : decode cX4_helpersFor 146 = .ok (.ireturn, 1) := by decide +kernel
theorem dX4_helpersFor_147 : decode cX4_helpersFor 147 = .ok (.bipush (-2), 2) := by decide +kernel
theorem dX4_helpersFor_149 : decode cX4_helpersFor 149 = .ok (.ireturn, 1) := by decide +kernel
theorem dX4_lowestOf_0 : decode cX4_lowestOf 0 = .ok (.iload_n 0, 1) := by decide +kernel
theorem dX4_lowestOf_1 : decode cX4_lowestOf 1 = .ok (.ifCond .ne 8, 3) := by decide +kernel
theorem dX4_lowestOf_4 : decode cX4_lowestOf 4 = .ok (.bipush (-2), 2) := by decide +kernel
theorem dX4_lowestOf_6 : decode cX4_lowestOf 6 = .ok (.goto 7, 3) := by decide +kernel
theorem dX4_lowestOf_9 : decode cX4_lowestOf 9 = .ok (.iload_n 0, 1) := by decide +kernel
theorem dX4_lowestOf_10 : decode cX4_lowestOf 10 = .ok (.iload_n 0, 1) := by decide +kernel
theorem dX4_lowestOf_11 : decode cX4_lowestOf 11 = .ok (.ineg, 1) := by decide +kernel
theorem dX4_lowestOf_12 : decode cX4_lowestOf 12 = .ok (.iand, 1) := by decide +kernel
theorem dX4_lowestOf_13 : decode cX4_lowestOf 13 = .ok (.ireturn, 1) := by decide +kernel
theorem dX4_withOneMore_0 : decode cX4_withOneMore 0 = .ok (.iload_n 0, 1) := by decide +kernel
theorem dX4_withOneMore_1 : decode cX4_withOneMore 1 = .ok (.ifCond .ge 7, 3) := by decide +kernel
theorem dX4_withOneMore_4 : decode cX4_withOneMore 4 = .ok (.iconst 0, 1) := by decide +kernel
theorem dX4_withOneMore_5 : decode cX4_withOneMore 5 = .ok (.goto 8, 3) := by decide +kernel
theorem dX4_withOneMore_8 : decode cX4_withOneMore 8 = .ok (.iload_n 1, 1) := by decide +kernel
theorem dX4_withOneMore_9 : decode cX4_withOneMore 9 = .ok (.iload_n 0, 1) := by decide +kernel
theorem dX4_withOneMore_10 : decode cX4_withOneMore 10 = .ok (.iconst (-1), 1) := by decide +kernel
theorem dX4_withOneMore_11 : decode cX4_withOneMore 11 = .ok (.ixor, 1) := by decide +kernel
theorem dX4_withOneMore_12 : decode cX4_withOneMore 12 = .ok (.iand, 1) := by decide +kernel
theorem dX4_withOneMore_13 : decode cX4_withOneMore 13 = .ok (.istore_n 2, 1) := by decide +kernel
theorem dX4_withOneMore_14 : decode cX4_withOneMore 14 = .ok (.iload_n 2, 1) := by decide +kernel
theorem dX4_withOneMore_15 : decode cX4_withOneMore 15 = .ok (.ifCond .ne 8, 3) := by decide +kernel
theorem dX4_withOneMore_18 : decode cX4_withOneMore 18 = .ok (.bipush (-2), 2) := by decide +kernel
theorem dX4_withOneMore_20 : decode cX4_withOneMore 20 = .ok (.goto 9, 3) := by decide +kernel
theorem dX4_withOneMore_23 : decode cX4_withOneMore 23 = .ok (.iload_n 0, 1) := by decide +kernel
theorem dX4_withOneMore_24 : decode cX4_withOneMore 24 = .ok (.iload_n 2, 1) := by decide +kernel
theorem dX4_withOneMore_25 : decode cX4_withOneMore 25 = .ok (.iload_n 2, 1) := by decide +kernel
theorem dX4_withOneMore_26 : decode cX4_withOneMore 26 = .ok (.ineg, 1) := by decide +kernel
theorem dX4_withOneMore_27 : decode cX4_withOneMore 27 = .ok (.iand, 1) := by decide +kernel
theorem dX4_withOneMore_28 : decode cX4_withOneMore 28 = .ok (.ior, 1) := by decide +kernel
theorem dX4_withOneMore_29 : decode cX4_withOneMore 29 = .ok (.ireturn, 1) := by decide +kernel
set_option maxRecDepth 20000 in
theorem ggX4_tryRide_X4_helpersFor : GoodIn wsX4_tryRide wsX4_helpersFor := goodIn_r _ [9, 2, 10, 11, 12, 8, 13, 14, 15, 16, 17, 18, 4, 3, 19, 20, 21, 22, 23, 24, 25, 26, 27, 28, 29, 30, 31, 32, 1, 33, 34, 35, 36, 37, 38, 39, 40, 41, 42, 43, 44, 45, 46, 47, 48, 59, 60, 61, 62, 63, 64, 65, 66, 67, 68, 69, 70, 71, 72, 73, 74, 75, 76, 77, 78] (by decide +kernel) (by decide +kernel)
set_option maxRecDepth 20000 in
theorem gX4_tryRide_X4_helpersFor : GoodIn wsX4_tryRide (wsV RX4 72 RX4 yX4_helpersFor wsX4_helpersFor) := goodIn_app (goodIn_of _ (by decide +kernel)) ggX4_tryRide_X4_helpersFor
set_option maxRecDepth 20000 in
theorem ggX4_tryRide_X0_rideDaysOf : GoodIn wsX4_tryRide wsX0_rideDaysOf := goodIn_r _ [52, 53, 65, 66, 67, 68, 69, 70, 71, 72, 73, 74, 75, 76, 77, 78] (by decide +kernel) (by decide +kernel)
set_option maxRecDepth 20000 in
theorem gX4_tryRide_X0_rideDaysOf : GoodIn wsX4_tryRide (wsV RX4 76 RX0 yX0_rideDaysOf wsX0_rideDaysOf) := goodIn_app (goodIn_of _ (by decide +kernel)) ggX4_tryRide_X0_rideDaysOf
set_option maxRecDepth 20000 in
theorem ggX4_tryRide_X5_bit : GoodIn wsX4_tryRide wsX5_bit := goodIn_r _ [21] (by decide +kernel) (by decide +kernel)
set_option maxRecDepth 20000 in
theorem gX4_tryRide_X5_bit_n49 : GoodIn wsX4_tryRide (wsX5_bit) := ggX4_tryRide_X5_bit
set_option maxRecDepth 20000 in
theorem ggX4_tryRide_X0_nextOf : GoodIn wsX4_tryRide wsX0_nextOf := goodIn_r _ [57, 58, 65, 66, 67, 68, 69, 70, 71, 72, 73, 74, 75, 76, 77, 78] (by decide +kernel) (by decide +kernel)
set_option maxRecDepth 20000 in
theorem gX4_tryRide_X0_nextOf : GoodIn wsX4_tryRide (wsV RX4 79 RX0 yX0_nextOf wsX0_nextOf) := goodIn_app (goodIn_of _ (by decide +kernel)) ggX4_tryRide_X0_nextOf
theorem dX4_tryRide_0 : decode cX4_tryRide 0 = .ok (.aload_n 0, 1) := by decide +kernel
theorem dX4_tryRide_1 : decode cX4_tryRide 1 = .ok (.aload_n 1, 1) := by decide +kernel
theorem dX4_tryRide_2 : decode cX4_tryRide 2 = .ok (.iload_n 2, 1) := by decide +kernel
theorem dX4_tryRide_3 : decode cX4_tryRide 3 = .ok (.invokevirtual 72, 3) := by decide +kernel
theorem dX4_tryRide_6 : decode cX4_tryRide 6 = .ok (.istore_n 3, 1) := by decide +kernel
theorem dX4_tryRide_7 : decode cX4_tryRide 7 = .ok (.iload_n 3, 1) := by decide +kernel
theorem dX4_tryRide_8 : decode cX4_tryRide 8 = .ok (.ifCond .ge 5, 3) := by decide +kernel
theorem dX4_tryRide_11 : decode cX4_tryRide 11 = .ok (.iconst 0, 1) := by decide +kernel
theorem dX4_tryRide_12 : decode cX4_tryRide 12 = .ok (.ireturn, 1) := by decide +kernel
theorem dX4_tryRide_13 : decode cX4_tryRide 13 = .ok (.aload_n 0, 1) := by decide +kernel
theorem dX4_tryRide_14 : decode cX4_tryRide 14 = .ok (.dup, 1) := by decide +kernel
theorem dX4_tryRide_15 : decode cX4_tryRide 15 = .ok (.getfield 26, 3) := by decide +kernel
theorem dX4_tryRide_18 : decode cX4_tryRide 18 = .ok (.iload_n 3, 1) := by decide +kernel
theorem dX4_tryRide_19 : decode cX4_tryRide 19 = .ok (.ior, 1) := by decide +kernel
theorem dX4_tryRide_20 : decode cX4_tryRide 20 = .ok (.putfield 26, 3) := by decide +kernel
theorem dX4_tryRide_23 : decode cX4_tryRide 23 = .ok (.aload_n 0, 1) := by decide +kernel
theorem dX4_tryRide_24 : decode cX4_tryRide 24 = .ok (.dup, 1) := by decide +kernel
theorem dX4_tryRide_25 : decode cX4_tryRide 25 = .ok (.getfield 35, 3) := by decide +kernel
theorem dX4_tryRide_28 : decode cX4_tryRide 28 = .ok (.aload_n 1, 1) := by decide +kernel
theorem dX4_tryRide_29 : decode cX4_tryRide 29 = .ok (.iload_n 2, 1) := by decide +kernel
theorem dX4_tryRide_30 : decode cX4_tryRide 30 = .ok (.invokevirtual 76, 3) := by decide +kernel
theorem dX4_tryRide_33 : decode cX4_tryRide 33 = .ok (.iadd, 1) := by decide +kernel
theorem dX4_tryRide_34 : decode cX4_tryRide 34 = .ok (.putfield 35, 3) := by decide +kernel
theorem dX4_tryRide_37 : decode cX4_tryRide 37 = .ok (.aload_n 0, 1) := by decide +kernel
theorem dX4_tryRide_38 : decode cX4_tryRide 38 = .ok (.dup, 1) := by decide +kernel
theorem dX4_tryRide_39 : decode cX4_tryRide 39 = .ok (.getfield 20, 3) := by decide +kernel
theorem dX4_tryRide_42 : decode cX4_tryRide 42 = .ok (.iload_n 2, 1) := by decide +kernel
theorem dX4_tryRide_43 : decode cX4_tryRide 43 = .ok (.invokestatic 49, 3) := by decide +kernel
theorem dX4_tryRide_46 : decode cX4_tryRide 46 = .ok (.ior, 1) := by decide +kernel
theorem dX4_tryRide_47 : decode cX4_tryRide 47 = .ok (.putfield 20, 3) := by decide +kernel
theorem dX4_tryRide_50 : decode cX4_tryRide 50 = .ok (.aload_n 0, 1) := by decide +kernel
theorem dX4_tryRide_51 : decode cX4_tryRide 51 = .ok (.dup, 1) := by decide +kernel
theorem dX4_tryRide_52 : decode cX4_tryRide 52 = .ok (.getfield 15, 3) := by decide +kernel
theorem dX4_tryRide_55 : decode cX4_tryRide 55 = .ok (.aload_n 1, 1) := by decide +kernel
theorem dX4_tryRide_56 : decode cX4_tryRide 56 = .ok (.iload_n 2, 1) := by decide +kernel
theorem dX4_tryRide_57 : decode cX4_tryRide 57 = .ok (.invokevirtual 79, 3) := by decide +kernel
theorem dX4_tryRide_60 : decode cX4_tryRide 60 = .ok (.invokestatic 49, 3) := by decide +kernel
theorem dX4_tryRide_63 : decode cX4_tryRide 63 = .ok (.ior, 1) := by decide +kernel
theorem dX4_tryRide_64 : decode cX4_tryRide 64 = .ok (.putfield 15, 3) := by decide +kernel
theorem dX4_tryRide_67 : decode cX4_tryRide 67 = .ok (.iconst 1, 1) := by decide +kernel
theorem dX4_tryRide_68 : decode cX4_tryRide 68 = .ok (.ireturn, 1) := by decide +kernel
set_option maxRecDepth 20000 in
theorem ggX4_tryBefriend_X0_priceOf : GoodIn wsX4_tryBefriend wsX0_priceOf := goodIn_r _ [7, 8, 18, 19, 20, 21, 22, 23, 24, 25, 26, 27, 28, 29, 30, 31] (by decide +kernel) (by decide +kernel)
set_option maxRecDepth 20000 in
theorem gX4_tryBefriend_X0_priceOf : GoodIn wsX4_tryBefriend (wsV RX4 82 RX0 yX0_priceOf wsX0_priceOf) := goodIn_app (goodIn_of _ (by decide +kernel)) ggX4_tryBefriend_X0_priceOf
set_option maxRecDepth 20000 in
theorem ggX4_tryBefriend_X5_bit : GoodIn wsX4_tryBefriend wsX5_bit := goodIn_r _ [11] (by decide +kernel) (by decide +kernel)
set_option maxRecDepth 20000 in
theorem gX4_tryBefriend_X5_bit_n49 : GoodIn wsX4_tryBefriend (wsX5_bit) := ggX4_tryBefriend_X5_bit
theorem dX4_tryBefriend_0 : decode cX4_tryBefriend 0 = .ok (.aload_n 1, 1) := by decide +kernel
theorem dX4_tryBefriend_1 : decode cX4_tryBefriend 1 = .ok (.iload_n 2, 1) := by decide +kernel
theorem dX4_tryBefriend_2 : decode cX4_tryBefriend 2 = .ok (.invokevirtual 82, 3) := by decide +kernel
theorem dX4_tryBefriend_5 : decode cX4_tryBefriend 5 = .ok (.istore_n 3, 1) := by decide +kernel
theorem dX4_tryBefriend_6 : decode cX4_tryBefriend 6 = .ok (.aload_n 0, 1) := by decide +kernel
theorem dX4_tryBefriend_7 : decode cX4_tryBefriend 7 = .ok (.getfield 23, 3) := by decide +kernel
theorem dX4_tryBefriend_10 : decode cX4_tryBefriend 10 = .ok (.iload_n 2, 1) := by decide +kernel
theorem dX4_tryBefriend_11 : decode cX4_tryBefriend 11 = .ok (.invokestatic 49, 3) := by decide +kernel
theorem dX4_tryBefriend_14 : decode cX4_tryBefriend 14 = .ok (.iand, 1) := by decide +kernel
theorem dX4_tryBefriend_15 : decode cX4_tryBefriend 15 = .ok (.ifCond .ne 11, 3) := by decide +kernel
theorem dX4_tryBefriend_18 : decode cX4_tryBefriend 18 = .ok (.iload_n 3, 1) := by decide +kernel
theorem dX4_tryBefriend_19 : decode cX4_tryBefriend 19 = .ok (.aload_n 0, 1) := by decide +kernel
theorem dX4_tryBefriend_20 : decode cX4_tryBefriend 20 = .ok (.getfield 32, 3) := by decide +kernel
theorem dX4_tryBefriend_23 : decode cX4_tryBefriend 23 = .ok (.if_icmp .le 5, 3) := by decide +kernel
theorem dX4_tryBefriend_26 : decode cX4_tryBefriend 26 = .ok (.iconst 0, 1) := by decide +kernel
theorem dX4_tryBefriend_27 : decode cX4_tryBefriend 27 = .ok (.ireturn, 1) := by decide +kernel
theorem dX4_tryBefriend_28 : decode cX4_tryBefriend 28 = .ok (.aload_n 0, 1) := by decide +kernel
theorem dX4_tryBefriend_29 : decode cX4_tryBefriend 29 = .ok (.dup, 1) := by decide +kernel
theorem dX4_tryBefriend_30 : decode cX4_tryBefriend 30 = .ok (.getfield 23, 3) := by decide +kernel
theorem dX4_tryBefriend_33 : decode cX4_tryBefriend 33 = .ok (.iload_n 2, 1) := by decide +kernel
theorem dX4_tryBefriend_34 : decode cX4_tryBefriend 34 = .ok (.invokestatic 49, 3) := by decide +kernel
theorem dX4_tryBefriend_37 : decode cX4_tryBefriend 37 = .ok (.ior, 1) := by decide +kernel
theorem dX4_tryBefriend_38 : decode cX4_tryBefriend 38 = .ok (.putfield 23, 3) := by decide +kernel
theorem dX4_tryBefriend_41 : decode cX4_tryBefriend 41 = .ok (.aload_n 0, 1) := by decide +kernel
theorem dX4_tryBefriend_42 : decode cX4_tryBefriend 42 = .ok (.dup, 1) := by decide +kernel
theorem dX4_tryBefriend_43 : decode cX4_tryBefriend 43 = .ok (.getfield 32, 3) := by decide +kernel
theorem dX4_tryBefriend_46 : decode cX4_tryBefriend 46 = .ok (.iload_n 3, 1) := by decide +kernel
theorem dX4_tryBefriend_47 : decode cX4_tryBefriend 47 = .ok (.isub, 1) := by decide +kernel
theorem dX4_tryBefriend_48 : decode cX4_tryBefriend 48 = .ok (.putfield 32, 3) := by decide +kernel
theorem dX4_tryBefriend_51 : decode cX4_tryBefriend 51 = .ok (.iconst 1, 1) := by decide +kernel
theorem dX4_tryBefriend_52 : decode cX4_tryBefriend 52 = .ok (.ireturn, 1) := by decide +kernel
set_option maxRecDepth 20000 in
theorem ggX4_trySuggest_X4_tasksToSuggest : GoodIn wsX4_trySuggest wsX4_tasksToSuggest := goodIn_r _ [6, 7, 1, 8, 9, 10, 5, 11, 12, 13, 14, 15, 16, 23, 24, 25, 26, 27, 28, 29, 30, 31, 32, 33, 34, 35, 36, 17, 18, 19, 20, 21, 22] (by decide +kernel) (by decide +kernel)
set_option maxRecDepth 20000 in
theorem gX4_trySuggest_X4_tasksToSuggest : GoodIn wsX4_trySuggest (wsV RX4 85 RX4 yX4_tasksToSuggest wsX4_tasksToSuggest) := goodIn_app (goodIn_of _ (by decide +kernel)) ggX4_trySuggest_X4_tasksToSuggest
set_option maxRecDepth 20000 in
theorem ggX4_trySuggest_X5_bit : GoodIn wsX4_trySuggest wsX5_bit := goodIn_r _ [16] (by decide +kernel) (by decide +kernel)
set_option maxRecDepth 20000 in
theorem gX4_trySuggest_X5_bit_n49 : GoodIn wsX4_trySuggest (wsX5_bit) := ggX4_trySuggest_X5_bit
theorem dX4_trySuggest_0 : decode cX4_trySuggest 0 = .ok (.aload_n 0, 1) := by decide +kernel
theorem dX4_trySuggest_1 : decode cX4_trySuggest 1 = .ok (.aload_n 1, 1) := by decide +kernel
theorem dX4_trySuggest_2 : decode cX4_trySuggest 2 = .ok (.invokevirtual 85, 3) := by decide +kernel
theorem dX4_trySuggest_5 : decode cX4_trySuggest 5 = .ok (.iload_n 2, 1) := by decide +kernel
theorem dX4_trySuggest_6 : decode cX4_trySuggest 6 = .ok (.invokestatic 49, 3) := by decide +kernel
theorem dX4_trySuggest_9 : decode cX4_trySuggest 9 = .ok (.iand, 1) := by decide +kernel
theorem dX4_trySuggest_10 : decode cX4_trySuggest 10 = .ok (.ifCond .ne 5, 3) := by decide +kernel
theorem dX4_trySuggest_13 : decode cX4_trySuggest 13 = .ok (.iconst 0, 1) := by decide +kernel
theorem dX4_trySuggest_14 : decode cX4_trySuggest 14 = .ok (.ireturn, 1) := by decide +kernel
theorem dX4_trySuggest_15 : decode cX4_trySuggest 15 = .ok (.aload_n 0, 1) := by decide +kernel
theorem dX4_trySuggest_16 : decode cX4_trySuggest 16 = .ok (.dup, 1) := by decide +kernel
theorem dX4_trySuggest_17 : decode cX4_trySuggest 17 = .ok (.getfield 15, 3) := by decide +kernel
theorem dX4_trySuggest_20 : decode cX4_trySuggest 20 = .ok (.iload_n 2, 1) := by decide +kernel
theorem dX4_trySuggest_21 : decode cX4_trySuggest 21 = .ok (.invokestatic 49, 3) := by decide +kernel
theorem dX4_trySuggest_24 : decode cX4_trySuggest 24 = .ok (.ior, 1) := by decide +kernel
theorem dX4_trySuggest_25 : decode cX4_trySuggest 25 = .ok (.putfield 15, 3) := by decide +kernel
theorem dX4_trySuggest_28 : decode cX4_trySuggest 28 = .ok (.iconst 1, 1) := by decide +kernel
theorem dX4_trySuggest_29 : decode cX4_trySuggest 29 = .ok (.ireturn, 1) := by decide +kernel
set_option maxRecDepth 20000 in
theorem ggX4_tryHandUp_X4_isLost : GoodIn wsX4_tryHandUp wsX4_isLost := goodIn_r _ [7, 1, 8, 23, 24, 25, 26, 27, 28, 29, 30, 31, 32, 33, 34, 35, 36, 37, 38, 39, 40, 41, 42] (by decide +kernel) (by decide +kernel)
set_option maxRecDepth 20000 in
theorem gX4_tryHandUp_X4_isLost : GoodIn wsX4_tryHandUp (wsV RX4 41 RX4 yX4_isLost wsX4_isLost) := goodIn_app (goodIn_of _ (by decide +kernel)) ggX4_tryHandUp_X4_isLost
set_option maxRecDepth 20000 in
theorem ggX4_tryHandUp_X4_openTasks : GoodIn wsX4_tryHandUp wsX4_openTasks := goodIn_r _ [12, 13, 2, 23, 24, 25, 26, 27, 28] (by decide +kernel) (by decide +kernel)
set_option maxRecDepth 20000 in
theorem gX4_tryHandUp_X4_openTasks : GoodIn wsX4_tryHandUp (wsV RX4 45 RX4 yX4_openTasks wsX4_openTasks) := goodIn_app (goodIn_of _ (by decide +kernel)) ggX4_tryHandUp_X4_openTasks
set_option maxRecDepth 20000 in
theorem ggX4_tryHandUp_X5_bit : GoodIn wsX4_tryHandUp wsX5_bit := goodIn_r _ [16] (by decide +kernel) (by decide +kernel)
set_option maxRecDepth 20000 in
theorem gX4_tryHandUp_X5_bit_n49 : GoodIn wsX4_tryHandUp (wsX5_bit) := ggX4_tryHandUp_X5_bit
set_option maxRecDepth 20000 in
theorem ggX4_tryHandUp_X0_daysOf : GoodIn wsX4_tryHandUp wsX0_daysOf := goodIn_r _ [21, 22, 29, 30, 31, 32, 33, 34, 35, 36, 37, 38, 39, 40, 41, 42] (by decide +kernel) (by decide +kernel)
set_option maxRecDepth 20000 in
theorem gX4_tryHandUp_X0_daysOf : GoodIn wsX4_tryHandUp (wsV RX4 89 RX0 yX0_daysOf wsX0_daysOf) := goodIn_app (goodIn_of _ (by decide +kernel)) ggX4_tryHandUp_X0_daysOf
theorem dX4_tryHandUp_0 : decode cX4_tryHandUp 0 = .ok (.aload_n 0, 1) := by decide +kernel
theorem dX4_tryHandUp_1 : decode cX4_tryHandUp 1 = .ok (.aload_n 1, 1) := by decide +kernel
theorem dX4_tryHandUp_2 : decode cX4_tryHandUp 2 = .ok (.invokevirtual 41, 3) := by decide +kernel
theorem dX4_tryHandUp_5 : decode cX4_tryHandUp 5 = .ok (.ifCond .ne 15, 3) := by decide +kernel
theorem dX4_tryHandUp_8 : decode cX4_tryHandUp 8 = .ok (.aload_n 0, 1) := by decide +kernel
theorem dX4_tryHandUp_9 : decode cX4_tryHandUp 9 = .ok (.invokevirtual 45, 3) := by decide +kernel
theorem dX4_tryHandUp_12 : decode cX4_tryHandUp 12 = .ok (.iload_n 2, 1) := by decide +kernel
theorem dX4_tryHandUp_13 : decode cX4_tryHandUp 13 = .ok (.invokestatic 49, 3) := by decide +kernel
theorem dX4_tryHandUp_16 : decode cX4_tryHandUp 16 = .ok (.iand, 1) := by decide +kernel
theorem dX4_tryHandUp_17 : decode cX4_tryHandUp 17 = .ok (.ifCond .ne 5, 3) := by decide +kernel
theorem dX4_tryHandUp_20 : decode cX4_tryHandUp 20 = .ok (.iconst 0, 1) := by decide +kernel
theorem dX4_tryHandUp_21 : decode cX4_tryHandUp 21 = .ok (.ireturn, 1) := by decide +kernel
theorem dX4_tryHandUp_22 : decode cX4_tryHandUp 22 = .ok (.aload_n 0, 1) := by decide +kernel
theorem dX4_tryHandUp_23 : decode cX4_tryHandUp 23 = .ok (.dup, 1) := by decide +kernel
theorem dX4_tryHandUp_24 : decode cX4_tryHandUp 24 = .ok (.getfield 35, 3) := by decide +kernel
theorem dX4_tryHandUp_27 : decode cX4_tryHandUp 27 = .ok (.iconst 2, 1) := by decide +kernel
theorem dX4_tryHandUp_28 : decode cX4_tryHandUp 28 = .ok (.aload_n 1, 1) := by decide +kernel
theorem dX4_tryHandUp_29 : decode cX4_tryHandUp 29 = .ok (.iload_n 2, 1) := by decide +kernel
theorem dX4_tryHandUp_30 : decode cX4_tryHandUp 30 = .ok (.invokevirtual 89, 3) := by decide +kernel
theorem dX4_tryHandUp_33 : decode cX4_tryHandUp 33 = .ok (.imul, 1) := by decide +kernel
theorem dX4_tryHandUp_34 : decode cX4_tryHandUp 34 = .ok (.iconst 1, 1) := by decide +kernel
theorem dX4_tryHandUp_35 : decode cX4_tryHandUp 35 = .ok (.iadd, 1) := by decide +kernel
theorem dX4_tryHandUp_36 : decode cX4_tryHandUp 36 = .ok (.iadd, 1) := by decide +kernel
theorem dX4_tryHandUp_37 : decode cX4_tryHandUp 37 = .ok (.putfield 35, 3) := by decide +kernel
theorem dX4_tryHandUp_40 : decode cX4_tryHandUp 40 = .ok (.aload_n 0, 1) := by decide +kernel
theorem dX4_tryHandUp_41 : decode cX4_tryHandUp 41 = .ok (.dup, 1) := by decide +kernel
theorem dX4_tryHandUp_42 : decode cX4_tryHandUp 42 = .ok (.getfield 20, 3) := by decide +kernel
theorem dX4_tryHandUp_45 : decode cX4_tryHandUp 45 = .ok (.iload_n 2, 1) := by decide +kernel
theorem dX4_tryHandUp_46 : decode cX4_tryHandUp 46 = .ok (.invokestatic 49, 3) := by decide +kernel
theorem dX4_tryHandUp_49 : decode cX4_tryHandUp 49 = .ok (.ior, 1) := by decide +kernel
theorem dX4_tryHandUp_50 : decode cX4_tryHandUp 50 = .ok (.putfield 20, 3) := by decide +kernel
theorem dX4_tryHandUp_53 : decode cX4_tryHandUp 53 = .ok (.iconst 1, 1) := by decide +kernel
theorem dX4_tryHandUp_54 : decode cX4_tryHandUp 54 = .ok (.ireturn, 1) := by decide +kernel
set_option maxRecDepth 20000 in
theorem ggX4_tasksToSuggest_X4_isLost : GoodIn wsX4_tasksToSuggest wsX4_isLost := goodIn_r _ [7, 8, 9, 27, 28, 29, 30, 31, 32, 13, 14, 15, 16, 17, 18, 19, 20, 21, 22, 23, 24, 25, 26] (by decide +kernel) (by decide +kernel)
set_option maxRecDepth 20000 in
theorem gX4_tasksToSuggest_X4_isLost : GoodIn wsX4_tasksToSuggest (wsV RX4 41 RX4 yX4_isLost wsX4_isLost) := goodIn_app (goodIn_of _ (by decide +kernel)) ggX4_tasksToSuggest_X4_isLost
set_option maxRecDepth 20000 in
theorem ggX4_tasksToSuggest_X5_bit : GoodIn wsX4_tasksToSuggest wsX5_bit := goodIn_r _ [12] (by decide +kernel) (by decide +kernel)
set_option maxRecDepth 20000 in
theorem gX4_tasksToSuggest_X5_bit_n49 : GoodIn wsX4_tasksToSuggest (wsX5_bit) := ggX4_tasksToSuggest_X5_bit
theorem dX4_tasksToSuggest_0 : decode cX4_tasksToSuggest 0 = .ok (.aload_n 0, 1) := by decide +kernel
theorem dX4_tasksToSuggest_1 : decode cX4_tasksToSuggest 1 = .ok (.aload_n 1, 1) := by decide +kernel
theorem dX4_tasksToSuggest_2 : decode cX4_tasksToSuggest 2 = .ok (.invokevirtual 41, 3) := by decide +kernel
theorem dX4_tasksToSuggest_5 : decode cX4_tasksToSuggest 5 = .ok (.ifCond .eq 7, 3) := by decide +kernel
theorem dX4_tasksToSuggest_8 : decode cX4_tasksToSuggest 8 = .ok (.iconst 0, 1) := by decide +kernel
theorem dX4_tasksToSuggest_9 : decode cX4_tasksToSuggest 9 = .ok (.goto 19, 3) := by decide +kernel
theorem dX4_tasksToSuggest_12 : decode cX4_tasksToSuggest 12 = .ok (.aload_n 1, 1) := by decide +kernel
theorem dX4_tasksToSuggest_13 : decode cX4_tasksToSuggest 13 = .ok (.getfield 92, 3) := by decide +kernel
theorem dX4_tasksToSuggest_16 : decode cX4_tasksToSuggest 16 = .ok (.invokestatic 49, 3) := by decide +kernel
theorem dX4_tasksToSuggest_19 : decode cX4_tasksToSuggest 19 = .ok (.iconst 1, 1) := by decide +kernel
theorem dX4_tasksToSuggest_20 : decode cX4_tasksToSuggest 20 = .ok (.isub, 1) := by decide +kernel
theorem dX4_tasksToSuggest_21 : decode cX4_tasksToSuggest 21 = .ok (.aload_n 0, 1) := by decide +kernel
theorem dX4_tasksToSuggest_22 : decode cX4_tasksToSuggest 22 = .ok (.getfield 15, 3) := by decide +kernel
theorem dX4_tasksToSuggest_25 : decode cX4_tasksToSuggest 25 = .ok (.iconst (-1), 1) := by decide +kernel
theorem dX4_tasksToSuggest_26 : decode cX4_tasksToSuggest 26 = .ok (.ixor, 1) := by decide +kernel
theorem dX4_tasksToSuggest_27 : decode cX4_tasksToSuggest 27 = .ok (.iand, 1) := by decide +kernel
theorem dX4_tasksToSuggest_28 : decode cX4_tasksToSuggest 28 = .ok (.ireturn, 1) := by decide +kernel
set_option maxRecDepth 20000 in
theorem ggX4_tasksToCome_X4_openTasks : GoodIn wsX4_tasksToCome wsX4_openTasks := goodIn_r _ [7, 8, 2, 32, 33, 34, 35, 36, 37] (by decide +kernel) (by decide +kernel)
set_option maxRecDepth 20000 in
theorem gX4_tasksToCome_X4_openTasks : GoodIn wsX4_tasksToCome (wsV RX4 45 RX4 yX4_openTasks wsX4_openTasks) := goodIn_app (goodIn_of _ (by decide +kernel)) ggX4_tasksToCome_X4_openTasks
set_option maxRecDepth 20000 in
theorem ggX4_tasksToCome_X5_bit : GoodIn wsX4_tasksToCome wsX5_bit := goodIn_r _ [11] (by decide +kernel) (by decide +kernel)
set_option maxRecDepth 20000 in
theorem gX4_tasksToCome_X5_bit_n49 : GoodIn wsX4_tasksToCome (wsX5_bit) := ggX4_tasksToCome_X5_bit
set_option maxRecDepth 20000 in
theorem ggX4_tasksToCome_X0_nextOf : GoodIn wsX4_tasksToCome wsX0_nextOf := goodIn_r _ [16, 17, 18, 19, 20, 21, 22, 23, 24, 25, 26, 27, 28, 29, 30, 31] (by decide +kernel) (by decide +kernel)
set_option maxRecDepth 20000 in
theorem gX4_tasksToCome_X0_nextOf : GoodIn wsX4_tasksToCome (wsV RX4 79 RX0 yX0_nextOf wsX0_nextOf) := goodIn_app (goodIn_of _ (by decide +kernel)) ggX4_tasksToCome_X0_nextOf
theorem dX4_tasksToCome_0 : decode cX4_tasksToCome 0 = .ok (.aload_n 0, 1) := by decide +kernel
theorem dX4_tasksToCome_1 : decode cX4_tasksToCome 1 = .ok (.invokevirtual 45, 3) := by decide +kernel
theorem dX4_tasksToCome_4 : decode cX4_tasksToCome 4 = .ok (.istore_n 2, 1) := by decide +kernel
theorem dX4_tasksToCome_5 : decode cX4_tasksToCome 5 = .ok (.iconst 0, 1) := by decide +kernel
theorem dX4_tasksToCome_6 : decode cX4_tasksToCome 6 = .ok (.istore_n 3, 1) := by decide +kernel
theorem dX4_tasksToCome_7 : decode cX4_tasksToCome 7 = .ok (.iload_n 3, 1) := by decide +kernel
theorem dX4_tasksToCome_8 : decode cX4_tasksToCome 8 = .ok (.bipush 8, 2) := by decide +kernel
theorem dX4_tasksToCome_10 : decode cX4_tasksToCome 10 = .ok (.if_icmp .ge 56, 3) := by decide +kernel
theorem dX4_tasksToCome_13 : decode cX4_tasksToCome 13 = .ok (.iconst 0, 1) := by decide +kernel
theorem dX4_tasksToCome_14 : decode cX4_tasksToCome 14 = .ok (.istore 4, 2) := by decide +kernel
theorem dX4_tasksToCome_16 : decode cX4_tasksToCome 16 = .ok (.iload 4, 2) := by decide +kernel
theorem dX4_tasksToCome_18 : decode cX4_tasksToCome 18 = .ok (.aload_n 1, 1) := by decide +kernel
theorem dX4_tasksToCome_19 : decode cX4_tasksToCome 19 = .ok (.getfield 92, 3) := by decide +kernel
theorem dX4_tasksToCome_22 : decode cX4_tasksToCome 22 = .ok (.if_icmp .ge 38, 3) := by decide +kernel
theorem dX4_tasksToCome_25 : decode cX4_tasksToCome 25 = .ok (.iload_n 2, 1) := by decide +kernel
theorem dX4_tasksToCome_26 : decode cX4_tasksToCome 26 = .ok (.iload 4, 2) := by decide +kernel
theorem dX4_tasksToCome_28 : decode cX4_tasksToCome 28 = .ok (.invokestatic 49, 3) := by decide +kernel
theorem dX4_tasksToCome_31 : decode cX4_tasksToCome 31 = .ok (.iand, 1) := by decide +kernel
theorem dX4_tasksToCome_32 : decode cX4_tasksToCome 32 = .ok (.ifCond .eq 22, 3) := by decide +kernel
theorem dX4_tasksToCome_35 : decode cX4_tasksToCome 35 = .ok (.iload_n 2, 1) := by decide +kernel
theorem dX4_tasksToCome_36 : decode cX4_tasksToCome 36 = .ok (.aload_n 1, 1) := by decide +kernel
theorem dX4_tasksToCome_37 : decode cX4_tasksToCome 37 = .ok (.iload 4, 2) := by decide +kernel
theorem dX4_tasksToCome_39 : decode cX4_tasksToCome 39 = .ok (.invokevirtual 79, 3) := by decide +kernel
theorem dX4_tasksToCome_42 : decode cX4_tasksToCome 42 = .ok (.invokestatic 49, 3) := by decide +kernel
theorem dX4_tasksToCome_45 : decode cX4_tasksToCome 45 = .ok (.aload_n 0, 1) := by decide +kernel
theorem dX4_tasksToCome_46 : decode cX4_tasksToCome 46 = .ok (.getfield 20, 3) := by decide +kernel
theorem dX4_tasksToCome_49 : decode cX4_tasksToCome 49 = .ok (.iconst (-1), 1) := by decide +kernel
theorem dX4_tasksToCome_50 : decode cX4_tasksToCome 50 = .ok (.ixor, 1) := by decide +kernel
theorem dX4_tasksToCome_51 : decode cX4_tasksToCome 51 = .ok (.iand, 1) := by decide +kernel
theorem dX4_tasksToCome_52 : decode cX4_tasksToCome 52 = .ok (.ior, 1) := by decide +kernel
theorem dX4_tasksToCome_53 : decode cX4_tasksToCome 53 = .ok (.istore_n 2, 1) := by decide +kernel
theorem dX4_tasksToCome_54 : decode cX4_tasksToCome 54 = .ok (.iinc 4 1, 3) := by decide +kernel
theorem dX4_tasksToCome_57 : decode cX4_tasksToCome 57 = .ok (.goto (-41), 3) := by decide +kernel
theorem dX4_tasksToCome_60 : decode cX4_tasksToCome 60 = .ok (.iinc 3 1, 3) := by decide +kernel
theorem dX4_tasksToCome_63 : decode cX4_tasksToCome 63 = .ok (.goto (-56), 3) := by decide +kernel
theorem dX4_tasksToCome_66 : decode cX4_tasksToCome 66 = .ok (.iload_n 2, 1) := by decide +kernel
theorem dX4_tasksToCome_67 : decode cX4_tasksToCome 67 = .ok (.ireturn, 1) := by decide +kernel
