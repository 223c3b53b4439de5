theorem dX3_join_13 : decode cX3_join 13 = .ok (.if_icmp .ge 23, 3) := by decide +kernel
theorem dX3_join_16 : decode cX3_join 16 = .ok (.aload_n 0, 1) := by decide +kernel
theorem dX3_join_17 : decode cX3_join 17 = .ok (.getfield 9, 3) := by decide +kernel
theorem dX3_join_20 : decode cX3_join 20 = .ok (.aload_n 0, 1) := by decide +kernel
theorem dX3_join_21 : decode cX3_join 21 = .ok (.getfield 25, 3) := by decide +kernel
theorem dX3_join_24 : decode cX3_join 24 = .ok (.iload_n 1, 1) := by decide +kernel
theorem dX3_join_25 : decode cX3_join 25 = .ok (.iastore, 1) := by decide +kernel
theorem dX3_join_26 : decode cX3_join 26 = .ok (.aload_n 0, 1) := by decide +kernel
theorem dX3_join_27 : decode cX3_join 27 = .ok (.dup, 1) := by decide +kernel
theorem dX3_join_28 : decode cX3_join 28 = .ok (.getfield 25, 3) := by decide +kernel
theorem dX3_join_31 : decode cX3_join 31 = .ok (.iconst 1, 1) := by decide +kernel
theorem dX3_join_32 : decode cX3_join 32 = .ok (.iadd, 1) := by decide +kernel
theorem dX3_join_33 : decode cX3_join 33 = .ok (.putfield 25, 3) := by decide +kernel
theorem dX3_join_36 : decode cX3_join 36 = .ok (.return_, 1) := by decide +kernel
theorem dX3_takeFirst_0 : decode cX3_takeFirst 0 = .ok (.aload_n 0, 1) := by decide +kernel
theorem dX3_takeFirst_1 : decode cX3_takeFirst 1 = .ok (.getfield 21, 3) := by decide +kernel
theorem dX3_takeFirst_4 : decode cX3_takeFirst 4 = .ok (.ifCond .lt 23, 3) := by decide +kernel
theorem dX3_takeFirst_7 : decode cX3_takeFirst 7 = .ok (.aload_n 0, 1) := by decide +kernel
theorem dX3_takeFirst_8 : decode cX3_takeFirst 8 = .ok (.getfield 21, 3) := by decide +kernel
theorem dX3_takeFirst_11 : decode cX3_takeFirst 11 = .ok (.aload_n 0, 1) := by decide +kernel
theorem dX3_takeFirst_12 : decode cX3_takeFirst 12 = .ok (.getfield 25, 3) := by decide +kernel
theorem dX3_takeFirst_15 : decode cX3_takeFirst 15 = .ok (.if_icmp .ge 12, 3) := by decide +kernel
theorem dX3_takeFirst_18 : decode cX3_takeFirst 18 = .ok (.aload_n 0, 1) := by decide +kernel
theorem dX3_takeFirst_19 : decode cX3_takeFirst 19 = .ok (.getfield 21, 3) := by decide +kernel
theorem dX3_takeFirst_22 : decode cX3_takeFirst 22 = .ok (.bipush 124, 2) := by decide +kernel
theorem dX3_takeFirst_24 : decode cX3_takeFirst 24 = .ok (.if_icmp .lt 7, 3) := by decide +kernel
theorem dX3_takeFirst_27 : decode cX3_takeFirst 27 = .ok (.sipush 300, 3) := by decide +kernel
theorem dX3_takeFirst_30 : decode cX3_takeFirst 30 = .ok (.ireturn, 1) := by decide +kernel
theorem dX3_takeFirst_31 : decode cX3_takeFirst 31 = .ok (.aload_n 0, 1) := by decide +kernel
theorem dX3_takeFirst_32 : decode cX3_takeFirst 32 = .ok (.dup, 1) := by decide +kernel
theorem dX3_takeFirst_33 : decode cX3_takeFirst 33 = .ok (.getfield 21, 3) := by decide +kernel
theorem dX3_takeFirst_36 : decode cX3_takeFirst 36 = .ok (.iconst 1, 1) := by decide +kernel
theorem dX3_takeFirst_37 : decode cX3_takeFirst 37 = .ok (.iadd, 1) := by decide +kernel
theorem dX3_takeFirst_38 : decode cX3_takeFirst 38 = .ok (.putfield 21, 3) := by decide +kernel
theorem dX3_takeFirst_41 : decode cX3_takeFirst 41 = .ok (.aload_n 0, 1) := by decide +kernel
theorem dX3_takeFirst_42 : decode cX3_takeFirst 42 = .ok (.getfield 9, 3) := by decide +kernel
theorem dX3_takeFirst_45 : decode cX3_takeFirst 45 = .ok (.aload_n 0, 1) := by decide +kernel
theorem dX3_takeFirst_46 : decode cX3_takeFirst 46 = .ok (.getfield 21, 3) := by decide +kernel
theorem dX3_takeFirst_49 : decode cX3_takeFirst 49 = .ok (.iconst 1, 1) := by decide +kernel
theorem dX3_takeFirst_50 : decode cX3_takeFirst 50 = .ok (.isub, 1) := by decide +kernel
theorem dX3_takeFirst_51 : decode cX3_takeFirst 51 = .ok (.iaload, 1) := by decide +kernel
theorem dX3_takeFirst_52 : decode cX3_takeFirst 52 = .ok (.ireturn, 1) := by decide +kernel
theorem dX4_init_0 : decode cX4_init 0 = .ok (.aload_n 0, 1) := by decide +kernel
theorem dX4_init_1 : decode cX4_init 1 = .ok (.invokespecial 3, 3) := by decide +kernel
theorem dX4_init_4 : decode cX4_init 4 = .ok (.aload_n 0, 1) := by decide +kernel
theorem dX4_init_5 : decode cX4_init 5 = .ok (.sipush 260, 3) := by decide +kernel
theorem dX4_init_8 : decode cX4_init 8 = .ok (.newarray .boolean, 2) := by decide +kernel
theorem dX4_init_10 : decode cX4_init 10 = .ok (.putfield 9, 3) := by decide +kernel
theorem dX4_init_13 : decode cX4_init 13 = .ok (.aload_n 0, 1) := by decide +kernel
theorem dX4_init_14 : decode cX4_init 14 = .ok (.sipush 260, 3) := by decide +kernel
theorem dX4_init_17 : decode cX4_init 17 = .ok (.newarray .int, 2) := by decide +kernel
theorem dX4_init_19 : decode cX4_init 19 = .ok (.putfield 15, 3) := by decide +kernel
theorem dX4_init_22 : decode cX4_init 22 = .ok (.aload_n 0, 1) := by decide +kernel
theorem dX4_init_23 : decode cX4_init 23 = .ok (.bipush 40, 2) := by decide +kernel
theorem dX4_init_25 : decode cX4_init 25 = .ok (.newarray .boolean, 2) := by decide +kernel
theorem dX4_init_27 : decode cX4_init 27 = .ok (.putfield 19, 3) := by decide +kernel
theorem dX4_init_30 : decode cX4_init 30 = .ok (.return_, 1) := by decide +kernel
set_option maxRecDepth 20000 in
theorem ggX5_init_X0_init : GoodIn wsX5_init wsX0_init := goodIn_r _ [17, 18, 2, 3, 4, 19, 20, 21, 22, 23, 24, 25, 26, 27, 43, 44, 45, 46, 47] (by decide +kernel) (by decide +kernel)
set_option maxRecDepth 20000 in
theorem gX5_init_X0_init : GoodIn wsX5_init (wsX0_init) := ggX5_init_X0_init
set_option maxRecDepth 20000 in
theorem ggX5_init_X3_init : GoodIn wsX5_init wsX3_init := goodIn_r _ [29, 30, 2, 3, 4, 31, 48, 49, 50] (by decide +kernel) (by decide +kernel)
set_option maxRecDepth 20000 in
theorem gX5_init_X3_init_n24 : GoodIn wsX5_init (wsX3_init) := ggX5_init_X3_init
set_option maxRecDepth 20000 in
theorem ggX5_init_J7_fill_53178 : GoodIn wsX5_init wsJ7_fill_53178 := goodIn_r _ [27] (by decide +kernel) (by decide +kernel)
set_option maxRecDepth 20000 in
theorem gX5_init_J7_fill_53178 : GoodIn wsX5_init (va_wsS RX5 33 yJ7_fill_53178 wsJ7_fill_53178) := goodIn_app (goodIn_of _ (by decide +kernel)) ggX5_init_J7_fill_53178
theorem dX5_init_0 : decode cX5_init 0 = .ok (.aload_n 0, 1) := by decide +kernel
theorem dX5_init_1 : decode cX5_init 1 = .ok (.invokespecial 3, 3) := by decide +kernel
theorem dX5_init_4 : decode cX5_init 4 = .ok (.aload_n 0, 1) := by decide +kernel
theorem dX5_init_5 : decode cX5_init 5 = .ok (.bipush 8, 2) := by decide +kernel
theorem dX5_init_7 : decode cX5_init 7 = .ok (.newarray .int, 2) := by decide +kernel
theorem dX5_init_9 : decode cX5_init 9 = .ok (.putfield 9, 3) := by decide +kernel
theorem dX5_init_12 : decode cX5_init 12 = .ok (.aload_n 0, 1) := by decide +kernel
theorem dX5_init_13 : decode cX5_init 13 = .ok (.new 15, 3) := by decide +kernel
theorem dX5_init_16 : decode cX5_init 16 = .ok (.dup, 1) := by decide +kernel
theorem dX5_init_17 : decode cX5_init 17 = .ok (.invokespecial 17, 3) := by decide +kernel
theorem dX5_init_20 : decode cX5_init 20 = .ok (.putfield 18, 3) := by decide +kernel
theorem dX5_init_23 : decode cX5_init 23 = .ok (.aload_n 0, 1) := by decide +kernel
theorem dX5_init_24 : decode cX5_init 24 = .ok (.new 22, 3) := by decide +kernel
theorem dX5_init_27 : decode cX5_init 27 = .ok (.dup, 1) := by decide +kernel
theorem dX5_init_28 : decode cX5_init 28 = .ok (.invokespecial 24, 3) := by decide +kernel
theorem dX5_init_31 : decode cX5_init 31 = .ok (.putfield 25, 3) := by decide +kernel
theorem dX5_init_34 : decode cX5_init 34 = .ok (.aload_n 0, 1) := by decide +kernel
theorem dX5_init_35 : decode cX5_init 35 = .ok (.bipush 6, 2) := by decide +kernel
theorem dX5_init_37 : decode cX5_init 37 = .ok (.putfield 29, 3) := by decide +kernel
theorem dX5_init_40 : decode cX5_init 40 = .ok (.aload_n 0, 1) := by decide +kernel
theorem dX5_init_41 : decode cX5_init 41 = .ok (.getfield 9, 3) := by decide +kernel
theorem dX5_init_44 : decode cX5_init 44 = .ok (.sipush 300, 3) := by decide +kernel
theorem dX5_init_47 : decode cX5_init 47 = .ok (.invokestatic 33, 3) := by decide +kernel
theorem dX5_init_50 : decode cX5_init 50 = .ok (.return_, 1) := by decide +kernel
set_option maxRecDepth 20000 in
theorem ggX5_become_X0_become : GoodIn wsX5_become wsX0_become := goodIn_r _ [19, 20, 21, 3, 4, 5, 22, 23, 24, 25, 45, 46, 47, 48, 49] (by decide +kernel) (by decide +kernel)
set_option maxRecDepth 20000 in
theorem gX5_become_X0_become : GoodIn wsX5_become (wsV RX5 45 RX0 yX0_become wsX0_become) := goodIn_app (goodIn_of _ (by decide +kernel)) ggX5_become_X0_become
set_option maxRecDepth 20000 in
theorem ggX5_become_X3_become : GoodIn wsX5_become wsX3_become := goodIn_r _ [30, 31, 32, 3, 4, 5, 33, 34, 50, 51, 52] (by decide +kernel) (by decide +kernel)
set_option maxRecDepth 20000 in
theorem gX5_become_X3_become : GoodIn wsX5_become (wsV RX5 49 RX3 yX3_become wsX3_become) := goodIn_app (goodIn_of _ (by decide +kernel)) ggX5_become_X3_become
theorem dX5_become_0 : decode cX5_become 0 = .ok (.aload_n 1, 1) := by decide +kernel
theorem dX5_become_1 : decode cX5_become 1 = .ok (.getfield 9, 3) := by decide +kernel
theorem dX5_become_4 : decode cX5_become 4 = .ok (.iconst 0, 1) := by decide +kernel
theorem dX5_become_5 : decode cX5_become 5 = .ok (.aload_n 0, 1) := by decide +kernel
theorem dX5_become_6 : decode cX5_become 6 = .ok (.getfield 9, 3) := by decide +kernel
theorem dX5_become_9 : decode cX5_become 9 = .ok (.iconst 0, 1) := by decide +kernel
theorem dX5_become_10 : decode cX5_become 10 = .ok (.bipush 8, 2) := by decide +kernel
theorem dX5_become_12 : decode cX5_become 12 = .ok (.invokestatic 39, 3) := by decide +kernel
theorem dX5_become_15 : decode cX5_become 15 = .ok (.aload_n 0, 1) := by decide +kernel
theorem dX5_become_16 : decode cX5_become 16 = .ok (.getfield 18, 3) := by decide +kernel
theorem dX5_become_19 : decode cX5_become 19 = .ok (.aload_n 1, 1) := by decide +kernel
theorem dX5_become_20 : decode cX5_become 20 = .ok (.getfield 18, 3) := by decide +kernel
theorem dX5_become_23 : decode cX5_become 23 = .ok (.invokevirtual 45, 3) := by decide +kernel
theorem dX5_become_26 : decode cX5_become 26 = .ok (.aload_n 0, 1) := by decide +kernel
theorem dX5_become_27 : decode cX5_become 27 = .ok (.getfield 25, 3) := by decide +kernel
theorem dX5_become_30 : decode cX5_become 30 = .ok (.aload_n 1, 1) := by decide +kernel
theorem dX5_become_31 : decode cX5_become 31 = .ok (.getfield 25, 3) := by decide +kernel
theorem dX5_become_34 : decode cX5_become 34 = .ok (.invokevirtual 49, 3) := by decide +kernel
theorem dX5_become_37 : decode cX5_become 37 = .ok (.aload_n 0, 1) := by decide +kernel
theorem dX5_become_38 : decode cX5_become 38 = .ok (.aload_n 1, 1) := by decide +kernel
theorem dX5_become_39 : decode cX5_become 39 = .ok (.getfield 29, 3) := by decide +kernel
theorem dX5_become_42 : decode cX5_become 42 = .ok (.putfield 29, 3) := by decide +kernel
theorem dX5_become_45 : decode cX5_become 45 = .ok (.aload_n 0, 1) := by decide +kernel
theorem dX5_become_46 : decode cX5_become 46 = .ok (.aload_n 1, 1) := by decide +kernel
theorem dX5_become_47 : decode cX5_become 47 = .ok (.getfield 52, 3) := by decide +kernel
theorem dX5_become_50 : decode cX5_become 50 = .ok (.putfield 52, 3) := by decide +kernel
theorem dX5_become_53 : decode cX5_become 53 = .ok (.aload_n 0, 1) := by decide +kernel
theorem dX5_become_54 : decode cX5_become 54 = .ok (.aload_n 1, 1) := by decide +kernel
theorem dX5_become_55 : decode cX5_become 55 = .ok (.getfield 55, 3) := by decide +kernel
theorem dX5_become_58 : decode cX5_become 58 = .ok (.putfield 55, 3) := by decide +kernel
theorem dX5_become_61 : decode cX5_become 61 = .ok (.aload_n 0, 1) := by decide +kernel
theorem dX5_become_62 : decode cX5_become 62 = .ok (.aload_n 1, 1) := by decide +kernel
theorem dX5_become_63 : decode cX5_become 63 = .ok (.getfield 59, 3) := by decide +kernel
theorem dX5_become_66 : decode cX5_become 66 = .ok (.putfield 59, 3) := by decide +kernel
theorem dX5_become_69 : decode cX5_become 69 = .ok (.aload_n 0, 1) := by decide +kernel
theorem dX5_become_70 : decode cX5_become 70 = .ok (.aload_n 1, 1) := by decide +kernel
theorem dX5_become_71 : decode cX5_become 71 = .ok (.getfield 62, 3) := by decide +kernel
theorem dX5_become_74 : decode cX5_become 74 = .ok (.putfield 62, 3) := by decide +kernel
theorem dX5_become_77 : decode cX5_become 77 = .ok (.aload_n 0, 1) := by decide +kernel
theorem dX5_become_78 : decode cX5_become 78 = .ok (.aload_n 1, 1) := by decide +kernel
theorem dX5_become_79 : decode cX5_become 79 = .ok (.getfield 65, 3) := by decide +kernel
theorem dX5_become_82 : decode cX5_become 82 = .ok (.putfield 65, 3) := by decide +kernel
theorem dX5_become_85 : decode cX5_become 85 = .ok (.aload_n 0, 1) := by decide +kernel
theorem dX5_become_86 : decode cX5_become 86 = .ok (.aload_n 1, 1) := by decide +kernel
theorem dX5_become_87 : decode cX5_become 87 = .ok (.getfield 68, 3) := by decide +kernel
theorem dX5_become_90 : decode cX5_become 90 = .ok (.putfield 68, 3) := by decide +kernel
theorem dX5_become_93 : decode cX5_become 93 = .ok (.return_, 1) := by decide +kernel
theorem dX5_isThing_0 : decode cX5_isThing 0 = .ok (.iload_n 1, 1) := by decide +kernel
theorem dX5_isThing_1 : decode cX5_isThing 1 = .ok (.ifCond .lt 15, 3) := by decide +kernel
theorem dX5_isThing_4 : decode cX5_isThing 4 = .ok (.iload_n 1, 1) := by decide +kernel
theorem dX5_isThing_5 : decode cX5_isThing 5 = .ok (.aload_n 0, 1) := by decide +kernel
theorem dX5_isThing_6 : decode cX5_isThing 6 = .ok (.getfield 52, 3) := by decide +kernel
theorem dX5_isThing_9 : decode cX5_isThing 9 = .ok (.if_icmp .ge 7, 3) := by decide +kernel
theorem dX5_isThing_12 : decode cX5_isThing 12 = .ok (.iconst 1, 1) := by decide +kernel
theorem dX5_isThing_13 : decode cX5_isThing 13 = .ok (.goto 4, 3) := by decide +kernel
theorem dX5_isThing_16 : decode cX5_isThing 16 = .ok (.iconst 0, 1) := by decide +kernel
theorem dX5_isThing_17 : decode cX5_isThing 17 = .ok (.ireturn, 1) := by decide +kernel
set_option maxRecDepth 20000 in
theorem ggX5_hungOn_X7_isHook : GoodIn wsX5_hungOn wsX7_isHook := goodIn_r _ [4] (by decide +kernel) (by decide +kernel)
set_option maxRecDepth 20000 in
theorem gX5_hungOn_X7_isHook_n71 : GoodIn wsX5_hungOn (wsX7_isHook) := ggX5_hungOn_X7_isHook
theorem dX5_hungOn_0 : decode cX5_hungOn 0 = .ok (.iload_n 1, 1) := by decide +kernel
theorem dX5_hungOn_1 : decode cX5_hungOn 1 = .ok (.invokestatic 71, 3) := by decide +kernel
theorem dX5_hungOn_4 : decode cX5_hungOn 4 = .ok (.ifCond .eq 12, 3) := by decide +kernel
theorem dX5_hungOn_7 : decode cX5_hungOn 7 = .ok (.aload_n 0, 1) := by decide +kernel
theorem dX5_hungOn_8 : decode cX5_hungOn 8 = .ok (.getfield 9, 3) := by decide +kernel
theorem dX5_hungOn_11 : decode cX5_hungOn 11 = .ok (.iload_n 1, 1) := by decide +kernel
theorem dX5_hungOn_12 : decode cX5_hungOn 12 = .ok (.iaload, 1) := by decide +kernel
theorem dX5_hungOn_13 : decode cX5_hungOn 13 = .ok (.goto 6, 3) := by decide +kernel
theorem dX5_hungOn_16 : decode cX5_hungOn 16 = .ok (.sipush 300, 3) := by decide +kernel
theorem dX5_hungOn_19 : decode cX5_hungOn 19 = .ok (.ireturn, 1) := by decide +kernel
theorem dX5_freeInHalf_0 : decode cX5_freeInHalf 0 = .ok (.bipush 64, 2) := by decide +kernel
theorem dX5_freeInHalf_2 : decode cX5_freeInHalf 2 = .ok (.aload_n 0, 1) := by decide +kernel
theorem dX5_freeInHalf_3 : decode cX5_freeInHalf 3 = .ok (.getfield 62, 3) := by decide +kernel
theorem dX5_freeInHalf_6 : decode cX5_freeInHalf 6 = .ok (.isub, 1) := by decide +kernel
theorem dX5_freeInHalf_7 : decode cX5_freeInHalf 7 = .ok (.ireturn, 1) := by decide +kernel
theorem dX5_addressOfHalf_0 : decode cX5_addressOfHalf 0 = .ok (.iload_n 1, 1) := by decide +kernel
theorem dX5_addressOfHalf_1 : decode cX5_addressOfHalf 1 = .ok (.bipush 100, 2) := by decide +kernel
theorem dX5_addressOfHalf_3 : decode cX5_addressOfHalf 3 = .ok (.imul, 1) := by decide +kernel
theorem dX5_addressOfHalf_4 : decode cX5_addressOfHalf 4 = .ok (.ireturn, 1) := by decide +kernel
set_option maxRecDepth 20000 in
theorem ggX5_isInOldHalf_X5_addressOfHalf : GoodIn wsX5_isInOldHalf wsX5_addressOfHalf := goodIn_r _ [7] (by decide +kernel) (by decide +kernel)
set_option maxRecDepth 20000 in
theorem gX5_isInOldHalf_X5_addressOfHalf : GoodIn wsX5_isInOldHalf (wsV RX5 75 RX5 yX5_addressOfHalf wsX5_addressOfHalf) := goodIn_app (goodIn_of _ (by decide +kernel)) ggX5_isInOldHalf_X5_addressOfHalf
theorem dX5_isInOldHalf_0 : decode cX5_isInOldHalf 0 = .ok (.iload_n 1, 1) := by decide +kernel
theorem dX5_isInOldHalf_1 : decode cX5_isInOldHalf 1 = .ok (.aload_n 0, 1) := by decide +kernel
theorem dX5_isInOldHalf_2 : decode cX5_isInOldHalf 2 = .ok (.iconst 1, 1) := by decide +kernel
theorem dX5_isInOldHalf_3 : decode cX5_isInOldHalf 3 = .ok (.aload_n 0, 1) := by decide +kernel
theorem dX5_isInOldHalf_4 : decode cX5_isInOldHalf 4 = .ok (.getfield 59, 3) := by decide +kernel
theorem dX5_isInOldHalf_7 : decode cX5_isInOldHalf 7 = .ok (.isub, 1) := by decide +kernel
theorem dX5_isInOldHalf_8 : decode cX5_isInOldHalf 8 = .ok (.invokevirtual 75, 3) := by decide +kernel
theorem dX5_isInOldHalf_11 : decode cX5_isInOldHalf 11 = .ok (.isub, 1) := by decide +kernel
theorem dX5_isInOldHalf_12 : decode cX5_isInOldHalf 12 = .ok (.istore_n 2, 1) := by decide +kernel
theorem dX5_isInOldHalf_13 : decode cX5_isInOldHalf 13 = .ok (.aload_n 0, 1) := by decide +kernel
theorem dX5_isInOldHalf_14 : decode cX5_isInOldHalf 14 = .ok (.getfield 55, 3) := by decide +kernel
theorem dX5_isInOldHalf_17 : decode cX5_isInOldHalf 17 = .ok (.ifCond .eq 17, 3) := by decide +kernel
theorem dX5_isInOldHalf_20 : decode cX5_isInOldHalf 20 = .ok (.iload_n 2, 1) := by decide +kernel
theorem dX5_isInOldHalf_21 : decode cX5_isInOldHalf 21 = .ok (.ifCond .lt 13, 3) := by decide +kernel
theorem dX5_isInOldHalf_24 : decode cX5_isInOldHalf 24 = .ok (.iload_n 2, 1) := by decide +kernel
theorem dX5_isInOldHalf_25 : decode cX5_isInOldHalf 25 = .ok (.bipush 64, 2) := by decide +kernel
theorem dX5_isInOldHalf_27 : decode cX5_isInOldHalf 27 = .ok (.if_icmp .ge 7, 3) := by decide +kernel
theorem dX5_isInOldHalf_30 : decode cX5_isInOldHalf 30 = .ok (.iconst 1, 1) := by decide +kernel
theorem dX5_isInOldHalf_31 : decode cX5_isInOldHalf 31 = .ok (.goto 4, 3) := by decide +kernel
theorem dX5_isInOldHalf_34 : decode cX5_isInOldHalf 34 = .ok (.iconst 0, 1) := by decide +kernel
theorem dX5_isInOldHalf_35 : decode cX5_isInOldHalf 35 = .ok (.ireturn, 1) := by decide +kernel
set_option maxRecDepth 20000 in
theorem ggX5_roomKept_X5_addressOfHalf : GoodIn wsX5_roomKept wsX5_addressOfHalf := goodIn_r _ [8] (by decide +kernel) (by decide +kernel)
set_option maxRecDepth 20000 in
theorem gX5_roomKept_X5_addressOfHalf : GoodIn wsX5_roomKept (wsV RX5 75 RX5 yX5_addressOfHalf wsX5_addressOfHalf) := goodIn_app (goodIn_of _ (by decide +kernel)) ggX5_roomKept_X5_addressOfHalf
set_option maxRecDepth 20000 in
theorem ggX5_roomKept_X0_noteAt : GoodIn wsX5_roomKept wsX0_noteAt := goodIn_r _ [13, 14, 15, 16, 17, 12, 18, 19, 34, 35, 36, 37, 38] (by decide +kernel) (by decide +kernel)
set_option maxRecDepth 20000 in
theorem gX5_roomKept_X0_noteAt : GoodIn wsX5_roomKept (wsV RX5 79 RX0 yX0_noteAt wsX0_noteAt) := goodIn_app (goodIn_of _ (by decide +kernel)) ggX5_roomKept_X0_noteAt
set_option maxRecDepth 20000 in
theorem ggX5_roomKept_X0_sizeAt : GoodIn wsX5_roomKept wsX0_sizeAt := goodIn_r _ [23, 19, 15, 16, 17, 12, 18, 34, 35, 36, 37, 38] (by decide +kernel) (by decide +kernel)
set_option maxRecDepth 20000 in
theorem gX5_roomKept_X0_sizeAt : GoodIn wsX5_roomKept (wsV RX5 82 RX0 yX0_sizeAt wsX0_sizeAt) := goodIn_app (goodIn_of _ (by decide +kernel)) ggX5_roomKept_X0_sizeAt
theorem dX5_roomKept_0 : decode cX5_roomKept 0 = .ok (.iconst 0, 1) := by decide +kernel
theorem dX5_roomKept_1 : decode cX5_roomKept 1 = .ok (.istore_n 1, 1) := by decide +kernel
theorem dX5_roomKept_2 : decode cX5_roomKept 2 = .ok (.aload_n 0, 1) := by decide +kernel
theorem dX5_roomKept_3 : decode cX5_roomKept 3 = .ok (.iconst 1, 1) := by decide +kernel
theorem dX5_roomKept_4 : decode cX5_roomKept 4 = .ok (.aload_n 0, 1) := by decide +kernel
theorem dX5_roomKept_5 : decode cX5_roomKept 5 = .ok (.getfield 59, 3) := by decide +kernel
theorem dX5_roomKept_8 : decode cX5_roomKept 8 = .ok (.isub, 1) := by decide +kernel
theorem dX5_roomKept_9 : decode cX5_roomKept 9 = .ok (.invokevirtual 75, 3) := by decide +kernel
theorem dX5_roomKept_12 : decode cX5_roomKept 12 = .ok (.istore_n 2, 1) := by decide +kernel
theorem dX5_roomKept_13 : decode cX5_roomKept 13 = .ok (.iconst 0, 1) := by decide +kernel
theorem dX5_roomKept_14 : decode cX5_roomKept 14 = .ok (.istore_n 3, 1) := by decide +kernel
theorem dX5_roomKept_15 : decode cX5_roomKept 15 = .ok (.aload_n 0, 1) := by decide +kernel
theorem dX5_roomKept_16 : decode cX5_roomKept 16 = .ok (.getfield 55, 3) := by decide +kernel
theorem dX5_roomKept_19 : decode cX5_roomKept 19 = .ok (.ifCond .eq 44, 3) := by decide +kernel
theorem dX5_roomKept_22 : decode cX5_roomKept 22 = .ok (.iload_n 3, 1) := by decide +kernel
theorem dX5_roomKept_23 : decode cX5_roomKept 23 = .ok (.bipush 64, 2) := by decide +kernel
theorem dX5_roomKept_25 : decode cX5_roomKept 25 = .ok (.if_icmp .ge 38, 3) := by decide +kernel
theorem dX5_roomKept_28 : decode cX5_roomKept 28 = .ok (.aload_n 0, 1) := by decide +kernel
theorem dX5_roomKept_29 : decode cX5_roomKept 29 = .ok (.getfield 18, 3) := by decide +kernel
theorem dX5_roomKept_32 : decode cX5_roomKept 32 = .ok (.iload_n 2, 1) := by decide +kernel
theorem dX5_roomKept_33 : decode cX5_roomKept 33 = .ok (.iload_n 3, 1) := by decide +kernel
theorem dX5_roomKept_34 : decode cX5_roomKept 34 = .ok (.iadd, 1) := by decide +kernel
theorem dX5_roomKept_35 : decode cX5_roomKept 35 = .ok (.invokevirtual 79, 3) := by decide +kernel
theorem dX5_roomKept_38 : decode cX5_roomKept 38 = .ok (.sipush 300, 3) := by decide +kernel
theorem dX5_roomKept_41 : decode cX5_roomKept 41 = .ok (.if_icmp .ne 16, 3) := by decide +kernel
theorem dX5_roomKept_44 : decode cX5_roomKept 44 = .ok (.iload_n 1, 1) := by decide +kernel
theorem dX5_roomKept_45 : decode cX5_roomKept 45 = .ok (.aload_n 0, 1) := by decide +kernel
theorem dX5_roomKept_46 : decode cX5_roomKept 46 = .ok (.getfield 18, 3) := by decide +kernel
theorem dX5_roomKept_49 : decode cX5_roomKept 49 = .ok (.iload_n 2, 1) := by decide +kernel
theorem dX5_roomKept_50 : decode cX5_roomKept 50 = .ok (.iload_n 3, 1) := by decide +kernel
theorem dX5_roomKept_51 : decode cX5_roomKept 51 = .ok (.iadd, 1) := by decide +kernel
theorem dX5_roomKept_52 : decode cX5_roomKept 52 = .ok (.invokevirtual 82, 3) := by decide +kernel
theorem dX5_roomKept_55 : decode cX5_roomKept 55 = .ok (.iadd, 1) := by decide +kernel
theorem dX5_roomKept_56 : decode cX5_roomKept 56 = .ok (.istore_n 1, 1) := by decide +kernel
theorem dX5_roomKept_57 : decode cX5_roomKept 57 = .ok (.iinc 3 1, 3) := by decide +kernel
theorem dX5_roomKept_60 : decode cX5_roomKept 60 = .ok (.goto (-45), 3) := by decide +kernel
theorem dX5_roomKept_63 : decode cX5_roomKept 63 = .ok (.iload_n 1, 1) := by decide +kernel
theorem dX5_roomKept_64 : decode cX5_roomKept 64 = .ok (.ireturn, 1) := by decide +kernel
set_option maxRecDepth 20000 in
theorem ggX5_hasTwins_X0_isOf : GoodIn wsX5_hasTwins wsX0_isOf := goodIn_r _ [6, 7, 8, 9, 10, 5, 11, 12, 34, 35, 36, 37, 38] (by decide +kernel) (by decide +kernel)
set_option maxRecDepth 20000 in
theorem gX5_hasTwins_X0_isOf : GoodIn wsX5_hasTwins (wsV RX5 85 RX0 yX0_isOf wsX0_isOf) := goodIn_app (goodIn_of _ (by decide +kernel)) ggX5_hasTwins_X0_isOf
set_option maxRecDepth 20000 in
theorem ggX5_hasTwins_X5_isInOldHalf : GoodIn wsX5_hasTwins wsX5_isInOldHalf := goodIn_r _ [17, 18, 19, 20, 21, 22, 16, 23, 24, 25, 26, 27, 28, 29, 30, 31, 32, 33] (by decide +kernel) (by decide +kernel)
set_option maxRecDepth 20000 in
theorem gX5_hasTwins_X5_isInOldHalf : GoodIn wsX5_hasTwins (wsV RX5 89 RX5 yX5_isInOldHalf wsX5_isInOldHalf) := goodIn_app (goodIn_of _ (by decide +kernel)) ggX5_hasTwins_X5_isInOldHalf
theorem dX5_hasTwins_0 : decode cX5_hasTwins 0 = .ok (.iconst 0, 1) := by decide +kernel
theorem dX5_hasTwins_1 : decode cX5_hasTwins 1 = .ok (.istore_n 2, 1) := by decide +kernel
theorem dX5_hasTwins_2 : decode cX5_hasTwins 2 = .ok (.iconst 0, 1) := by decide +kernel
theorem dX5_hasTwins_3 : decode cX5_hasTwins 3 = .ok (.istore_n 3, 1) := by decide +kernel
theorem dX5_hasTwins_4 : decode cX5_hasTwins 4 = .ok (.iload_n 3, 1) := by decide +kernel
theorem dX5_hasTwins_5 : decode cX5_hasTwins 5 = .ok (.sipush 260, 3) := by decide +kernel
theorem dX5_hasTwins_8 : decode cX5_hasTwins 8 = .ok (.if_icmp .ge 32, 3) := by decide +kernel
theorem dX5_hasTwins_11 : decode cX5_hasTwins 11 = .ok (.aload_n 0, 1) := by decide +kernel
theorem dX5_hasTwins_12 : decode cX5_hasTwins 12 = .ok (.getfield 18, 3) := by decide +kernel
theorem dX5_hasTwins_15 : decode cX5_hasTwins 15 = .ok (.iload_n 1, 1) := by decide +kernel
theorem dX5_hasTwins_16 : decode cX5_hasTwins 16 = .ok (.iload_n 3, 1) := by decide +kernel
theorem dX5_hasTwins_17 : decode cX5_hasTwins 17 = .ok (.invokevirtual 85, 3) := by decide +kernel
theorem dX5_hasTwins_20 : decode cX5_hasTwins 20 = .ok (.ifCond .eq 14, 3) := by decide +kernel
theorem dX5_hasTwins_23 : decode cX5_hasTwins 23 = .ok (.aload_n 0, 1) := by decide +kernel
theorem dX5_hasTwins_24 : decode cX5_hasTwins 24 = .ok (.iload_n 3, 1) := by decide +kernel
theorem dX5_hasTwins_25 : decode cX5_hasTwins 25 = .ok (.invokevirtual 89, 3) := by decide +kernel
theorem dX5_hasTwins_28 : decode cX5_hasTwins 28 = .ok (.ifCond .ne 6, 3) := by decide +kernel
theorem dX5_hasTwins_31 : decode cX5_hasTwins 31 = .ok (.iinc 2 1, 3) := by decide +kernel
theorem dX5_hasTwins_34 : decode cX5_hasTwins 34 = .ok (.iinc 3 1, 3) := by decide +kernel
theorem dX5_hasTwins_37 : decode cX5_hasTwins 37 = .ok (.goto (-33), 3) := by decide +kernel
theorem dX5_hasTwins_40 : decode cX5_hasTwins 40 = .ok (.iload_n 2, 1) := by decide +kernel
theorem dX5_hasTwins_41 : decode cX5_hasTwins 41 = .ok (.iconst 1, 1) := by decide +kernel
theorem dX5_hasTwins_42 : decode cX5_hasTwins 42 = .ok (.if_icmp .le 7, 3) := by decide +kernel
theorem dX5_hasTwins_45 : decode cX5_hasTwins 45 = .ok (.iconst 1, 1) := by decide +kernel
theorem dX5_hasTwins_46 : decode cX5_hasTwins 46 = .ok (.goto 4, 3) := by decide +kernel
theorem dX5_hasTwins_49 : decode cX5_hasTwins 49 = .ok (.iconst 0, 1) := by decide +kernel
theorem dX5_hasTwins_50 : decode cX5_hasTwins 50 = .ok (.ireturn, 1) := by decide +kernel
set_option maxRecDepth 20000 in
theorem ggX5_thingsWithTwins_X5_hasTwins : GoodIn wsX5_thingsWithTwins wsX5_hasTwins := goodIn_r _ [6, 7, 8, 9, 10, 11, 12, 13, 14, 15, 16, 17, 18, 19, 20, 21, 5, 22, 23, 24, 25, 26, 27, 28, 29, 30, 31, 32, 33, 34, 35, 36, 37, 38, 39, 40, 41, 42, 43] (by decide +kernel) (by decide +kernel)
set_option maxRecDepth 20000 in
theorem gX5_thingsWithTwins_X5_hasTwins : GoodIn wsX5_thingsWithTwins (wsV RX5 92 RX5 yX5_hasTwins wsX5_hasTwins) := goodIn_app (goodIn_of _ (by decide +kernel)) ggX5_thingsWithTwins_X5_hasTwins
theorem dX5_thingsWithTwins_0 : decode cX5_thingsWithTwins 0 = .ok (.iconst 0, 1) := by decide +kernel
theorem dX5_thingsWithTwins_1 : decode cX5_thingsWithTwins 1 = .ok (.istore_n 1, 1) := by decide +kernel
theorem dX5_thingsWithTwins_2 : decode cX5_thingsWithTwins 2 = .ok (.iconst 0, 1) := by decide +kernel
theorem dX5_thingsWithTwins_3 : decode cX5_thingsWithTwins 3 = .ok (.istore_n 2, 1) := by decide +kernel
theorem dX5_thingsWithTwins_4 : decode cX5_thingsWithTwins 4 = .ok (.iload_n 2, 1) := by decide +kernel
theorem dX5_thingsWithTwins_5 : decode cX5_thingsWithTwins 5 = .ok (.aload_n 0, 1) := by decide +kernel
theorem dX5_thingsWithTwins_6 : decode cX5_thingsWithTwins 6 = .ok (.getfield 52, 3) := by decide +kernel
theorem dX5_thingsWithTwins_9 : decode cX5_thingsWithTwins 9 = .ok (.if_icmp .ge 20, 3) := by decide +kernel
theorem dX5_thingsWithTwins_12 : decode cX5_thingsWithTwins 12 = .ok (.aload_n 0, 1) := by decide +kernel
theorem dX5_thingsWithTwins_13 : decode cX5_thingsWithTwins 13 = .ok (.iload_n 2, 1) := by decide +kernel
theorem dX5_thingsWithTwins_14 : decode cX5_thingsWithTwins 14 = .ok (.invokevirtual 92, 3) := by decide +kernel
theorem dX5_thingsWithTwins_17 : decode cX5_thingsWithTwins 17 = .ok (.ifCond .eq 6, 3) := by decide +kernel
theorem dX5_thingsWithTwins_20 : decode cX5_thingsWithTwins 20 = .ok (.iinc 1 1, 3) := by decide +kernel
theorem dX5_thingsWithTwins_23 : decode cX5_thingsWithTwins 23 = .ok (.iinc 2 1, 3) := by decide +kernel
theorem dX5_thingsWithTwins_26 : decode cX5_thingsWithTwins 26 = .ok (.goto (-22), 3) := by decide +kernel
theorem dX5_thingsWithTwins_29 : decode cX5_thingsWithTwins 29 = .ok (.iload_n 1, 1) := by decide +kernel
theorem dX5_thingsWithTwins_30 : decode cX5_thingsWithTwins 30 = .ok (.ireturn, 1) := by decide +kernel
set_option maxRecDepth 20000 in
theorem ggX5_numberOf_X0_number : GoodIn wsX5_numberOf wsX0_number := goodIn_r _ [13, 14, 15, 16, 12, 17, 18, 81, 82, 83, 84, 85] (by decide +kernel) (by decide +kernel)
set_option maxRecDepth 20000 in
theorem gX5_numberOf_X0_number : GoodIn wsX5_numberOf (wsV RX5 95 RX0 yX0_number wsX0_number) := goodIn_app (goodIn_of _ (by decide +kernel)) ggX5_numberOf_X0_number
set_option maxRecDepth 20000 in
theorem ggX5_numberOf_X5_freeInHalf : GoodIn wsX5_numberOf wsX5_freeInHalf := goodIn_r _ [23, 24, 71, 72, 73, 74, 75, 76, 77, 78, 79, 80] (by decide +kernel) (by decide +kernel)
set_option maxRecDepth 20000 in
theorem gX5_numberOf_X5_freeInHalf : GoodIn wsX5_numberOf (wsV RX5 99 RX5 yX5_freeInHalf wsX5_freeInHalf) := goodIn_app (goodIn_of _ (by decide +kernel)) ggX5_numberOf_X5_freeInHalf
set_option maxRecDepth 20000 in
theorem ggX5_numberOf_X0_floorTaken : GoodIn wsX5_numberOf wsX0_floorTaken := goodIn_r _ [28, 29, 30, 31, 12, 32, 18, 14, 15, 16, 17, 81, 82, 83, 84, 85] (by decide +kernel) (by decide +kernel)
set_option maxRecDepth 20000 in
theorem gX5_numberOf_X0_floorTaken : GoodIn wsX5_numberOf (wsV RX5 102 RX0 yX0_floorTaken wsX0_floorTaken) := goodIn_app (goodIn_of _ (by decide +kernel)) ggX5_numberOf_X0_floorTaken
set_option maxRecDepth 20000 in
theorem ggX5_numberOf_X3_size : GoodIn wsX5_numberOf wsX3_size := goodIn_r _ [37, 38, 39, 86, 87, 88] (by decide +kernel) (by decide +kernel)
set_option maxRecDepth 20000 in
theorem gX5_numberOf_X3_size : GoodIn wsX5_numberOf (wsV RX5 105 RX3 yX3_size wsX3_size) := goodIn_app (goodIn_of _ (by decide +kernel)) ggX5_numberOf_X3_size
set_option maxRecDepth 20000 in
theorem ggX5_numberOf_X5_roomKept : GoodIn wsX5_numberOf wsX5_roomKept := goodIn_r _ [43, 4, 3, 2, 44, 45, 46, 22, 47, 48, 49, 50, 12, 51, 52, 14, 15, 16, 17, 18, 53, 30, 31, 32, 71, 72, 73, 74, 75, 76, 77, 78, 79, 80, 81, 82, 83, 84, 85] (by decide +kernel) (by decide +kernel)
set_option maxRecDepth 20000 in
theorem gX5_numberOf_X5_roomKept : GoodIn wsX5_numberOf (wsV RX5 108 RX5 yX5_roomKept wsX5_roomKept) := goodIn_app (goodIn_of _ (by decide +kernel)) ggX5_numberOf_X5_roomKept
set_option maxRecDepth 20000 in
theorem ggX5_numberOf_X5_thingsWithTwins : GoodIn wsX5_numberOf wsX5_thingsWithTwins := goodIn_r _ [57, 1, 58, 59, 60, 22, 61, 2, 62, 63, 64, 12, 65, 66, 14, 15, 16, 17, 18, 67, 68, 69, 70, 4, 3, 44, 45, 46, 47, 71, 72, 73, 74, 75, 76, 77, 78, 79, 80, 81, 82, 83, 84, 85] (by decide +kernel) (by decide +kernel)
set_option maxRecDepth 20000 in
theorem gX5_numberOf_X5_thingsWithTwins : GoodIn wsX5_numberOf (wsV RX5 111 RX5 yX5_thingsWithTwins wsX5_thingsWithTwins) := goodIn_app (goodIn_of _ (by decide +kernel)) ggX5_numberOf_X5_thingsWithTwins
theorem dX5_numberOf_0 : decode cX5_numberOf 0 = .ok (.iload_n 1, 1) := by decide +kernel
theorem dX5_numberOf_1 : decode cX5_numberOf 1 = .ok (.tableswitch 143 0 11 #[63, 68, 76, 89, 94, 99, 110, 118, 123, 128, 133, 138], 63) := by decide +kernel
theorem dX5_numberOf_64 : decode cX5_numberOf 64 = .ok (.aload_n 0, 1) := by decide +kernel
theorem dX5_numberOf_65 : decode cX5_numberOf 65 = .ok (.getfield 52, 3) := by decide +kernel
theorem dX5_numberOf_68 : decode cX5_numberOf 68 = .ok (.ireturn, 1) := by decide +kernel
theorem dX5_numberOf_69 : decode cX5_numberOf 69 = .ok (.aload_n 0, 1) := by decide +kernel
theorem dX5_numberOf_70 : decode cX5_numberOf 70 = .ok (.getfield 18, 3) := by decide +kernel
theorem dX5_numberOf_73 : decode cX5_numberOf 73 = .ok (.invokevirtual 95, 3) := by decide +kernel
theorem dX5_numberOf_76 : decode cX5_numberOf 76 = .ok (.ireturn, 1) := by decide +kernel
theorem dX5_numberOf_77 : decode cX5_numberOf 77 = .ok (.aload_n 0, 1) := by decide +kernel
theorem dX5_numberOf_78 : decode cX5_numberOf 78 = .ok (.getfield 55, 3) := by decide +kernel
theorem dX5_numberOf_81 : decode cX5_numberOf 81 = .ok (.ifCond .eq 7, 3) := by decide +kernel
theorem dX5_numberOf_84 : decode cX5_numberOf 84 = .ok (.iconst 1, 1) := by decide +kernel
theorem dX5_numberOf_85 : decode cX5_numberOf 85 = .ok (.goto 4, 3) := by decide +kernel
theorem dX5_numberOf_88 : decode cX5_numberOf 88 = .ok (.iconst 0, 1) := by decide +kernel
theorem dX5_numberOf_89 : decode cX5_numberOf 89 = .ok (.ireturn, 1) := by decide +kernel
theorem dX5_numberOf_90 : decode cX5_numberOf 90 = .ok (.aload_n 0, 1) := by decide +kernel
theorem dX5_numberOf_91 : decode cX5_numberOf 91 = .ok (.getfield 59, 3) := by decide +kernel
theorem dX5_numberOf_94 : decode cX5_numberOf 94 = .ok (.ireturn, 1) := by decide +kernel
theorem dX5_numberOf_95 : decode cX5_numberOf 95 = .ok (.aload_n 0, 1) := by decide +kernel
theorem dX5_numberOf_96 : decode cX5_numberOf 96 = .ok (.invokevirtual 99, 3) := by decide +kernel
theorem dX5_numberOf_99 : decode cX5_numberOf 99 = .ok (.ireturn, 1) := by decide +kernel
theorem dX5_numberOf_100 : decode cX5_numberOf 100 = .ok (.bipush 60, 2) := by decide +kernel
theorem dX5_numberOf_102 : decode cX5_numberOf 102 = .ok (.aload_n 0, 1) := by decide +kernel
theorem dX5_numberOf_103 : decode cX5_numberOf 103 = .ok (.getfield 18, 3) := by decide +kernel
theorem dX5_numberOf_106 : decode cX5_numberOf 106 = .ok (.invokevirtual 102, 3) := by decide +kernel
theorem dX5_numberOf_109 : decode cX5_numberOf 109 = .ok (.isub, 1) := by decide +kernel
theorem dX5_numberOf_110 : decode cX5_numberOf 110 = .ok (.ireturn, 1) := by decide +kernel
theorem dX5_numberOf_111 : decode cX5_numberOf 111 = .ok (.aload_n 0, 1) := by decide +kernel
theorem dX5_numberOf_112 : decode cX5_numberOf 112 = .ok (.getfield 25, 3) := by decide +kernel
theorem dX5_numberOf_115 : decode cX5_numberOf 115 = .ok (.invokevirtual 105, 3) := by decide +kernel
theorem dX5_numberOf_118 : decode cX5_numberOf 118 = .ok (.ireturn, 1) := by decide +kernel
theorem dX5_numberOf_119 : decode cX5_numberOf 119 = .ok (.aload_n 0, 1) := by decide +kernel
theorem dX5_numberOf_120 : decode cX5_numberOf 120 = .ok (.invokevirtual 108, 3) := by decide +kernel
theorem dX5_numberOf_123 : decode cX5_numberOf 123 = .ok (.ireturn, 1) := by decide +kernel
theorem dX5_numberOf_124 : decode cX5_numberOf 124 = .ok (.aload_n 0, 1) := by decide +kernel
theorem dX5_numberOf_125 : decode cX5_numberOf 125 = .ok (.getfield 65, 3) := by decide +kernel
theorem dX5_numberOf_128 : decode cX5_numberOf 128 = .ok (.ireturn, 1) := by decide +kernel
theorem dX5_numberOf_129 : decode cX5_numberOf 129 = .ok (.aload_n 0, 1) := by decide +kernel
theorem dX5_numberOf_130 : decode cX5_numberOf 130 = .ok (.getfield 68, 3) := by decide +kernel
theorem dX5_numberOf_133 : decode cX5_numberOf 133 = .ok (.ireturn, 1) := by decide +kernel
theorem dX5_numberOf_134 : decode cX5_numberOf 134 = .ok (.aload_n 0, 1) := by decide +kernel
theorem dX5_numberOf_135 : decode cX5_numberOf 135 = .ok (.invokevirtual 111, 3) := by decide +kernel
theorem dX5_numberOf_138 : decode cX5_numberOf 138 = .ok (.ireturn, 1) := by decide +kernel
theorem dX5_numberOf_139 : decode cX5_numberOf 139 = .ok (.aload_n 0, 1) := by decide +kernel
theorem dX5_numberOf_140 : decode cX5_numberOf 140 = .ok (.getfield 29, 3) := by decide +kernel
theorem dX5_numberOf_143 : decode cX5_numberOf 143 = .ok (.ireturn, 1) := by decide +kernel
theorem dX5_numberOf_144 : decode cX5_numberOf 144 = .ok (.iconst (-1), 1) := by decide +kernel
theorem dX5_numberOf_145 : decode cX5_numberOf 145 = .ok (.ireturn, 1) := by decide +kernel
theorem dX5_changeBound_0 : decode cX5_changeBound 0 = .ok (.iload_n 1, 1) := by decide +kernel
theorem dX5_changeBound_1 : decode cX5_changeBound 1 = .ok (.iconst 2, 1) := by decide +kernel
theorem dX5_changeBound_2 : decode cX5_changeBound 2 = .ok (.if_icmp .lt 9, 3) := by decide +kernel
theorem dX5_changeBound_5 : decode cX5_changeBound 5 = .ok (.iload_n 1, 1) := by decide +kernel
theorem dX5_changeBound_6 : decode cX5_changeBound 6 = .ok (.bipush 13, 2) := by decide +kernel
theorem dX5_changeBound_8 : decode cX5_changeBound 8 = .ok (.if_icmp .le 5, 3) := by decide +kernel
theorem dX5_changeBound_11 : decode cX5_changeBound 11 = .ok (.iconst (-1), 1) := by decide +kernel
theorem dX5_changeBound_12 : decode cX5_changeBound 12 = .ok (.ireturn, 1) := by decide +kernel
theorem dX5_changeBound_13 : decode cX5_changeBound 13 = .ok (.aload_n 0, 1) := by decide +kernel
theorem dX5_changeBound_14 : decode cX5_changeBound 14 = .ok (.getfield 29, 3) := by decide +kernel
theorem dX5_changeBound_17 : decode cX5_changeBound 17 = .ok (.istore_n 2, 1) := by decide +kernel
theorem dX5_changeBound_18 : decode cX5_changeBound 18 = .ok (.aload_n 0, 1) := by decide +kernel
theorem dX5_changeBound_19 : decode cX5_changeBound 19 = .ok (.iload_n 1, 1) := by decide +kernel
theorem dX5_changeBound_20 : decode cX5_changeBound 20 = .ok (.putfield 29, 3) := by decide +kernel
theorem dX5_changeBound_23 : decode cX5_changeBound 23 = .ok (.iload_n 2, 1) := by decide +kernel
theorem dX5_changeBound_24 : decode cX5_changeBound 24 = .ok (.ireturn, 1) := by decide +kernel
set_option maxRecDepth 20000 in
theorem ggX5_makeThing_X7_isHook : GoodIn wsX5_makeThing wsX7_isHook := goodIn_r _ [9] (by decide +kernel) (by decide +kernel)
set_option maxRecDepth 20000 in
theorem gX5_makeThing_X7_isHook_n71 : GoodIn wsX5_makeThing (wsX7_isHook) := ggX5_makeThing_X7_isHook
set_option maxRecDepth 20000 in
theorem ggX5_makeThing_X0_floorAddressFor : GoodIn wsX5_makeThing wsX0_floorAddressFor := goodIn_r _ [14, 15, 16, 17, 13, 18, 19, 20, 21, 22, 23, 69, 70, 71, 72, 73] (by decide +kernel) (by decide +kernel)
set_option maxRecDepth 20000 in
theorem gX5_makeThing_X0_floorAddressFor : GoodIn wsX5_makeThing (wsV RX5 114 RX0 yX0_floorAddressFor wsX0_floorAddressFor) := goodIn_app (goodIn_of _ (by decide +kernel)) ggX5_makeThing_X0_floorAddressFor
set_option maxRecDepth 20000 in
theorem ggX5_makeThing_X5_halfAddressFor : GoodIn wsX5_makeThing wsX5_halfAddressFor := goodIn_r _ [28, 29, 4, 30, 31, 32, 27, 33, 34, 35, 36, 37, 5, 2, 38, 39, 40, 41, 42, 43, 44, 13, 45, 46, 20, 21, 22, 23, 19, 47, 16, 17, 18, 59, 60, 61, 62, 63, 64, 65, 66, 67, 68, 69, 70, 71, 72, 73] (by decide +kernel) (by decide +kernel)
set_option maxRecDepth 20000 in
theorem gX5_makeThing_X5_halfAddressFor : GoodIn wsX5_makeThing (wsV RX5 117 RX5 yX5_halfAddressFor wsX5_halfAddressFor) := goodIn_app (goodIn_of _ (by decide +kernel)) ggX5_makeThing_X5_halfAddressFor
set_option maxRecDepth 20000 in
theorem ggX5_makeThing_X0_lay : GoodIn wsX5_makeThing wsX0_lay := goodIn_r _ [51, 52, 19, 46, 53, 54, 69, 70, 71, 72, 73] (by decide +kernel) (by decide +kernel)
set_option maxRecDepth 20000 in
theorem gX5_makeThing_X0_lay : GoodIn wsX5_makeThing (wsV RX5 120 RX0 yX0_lay wsX0_lay) := goodIn_app (goodIn_of _ (by decide +kernel)) ggX5_makeThing_X0_lay
set_option maxRecDepth 20000 in
theorem ggX5_makeThing_X0_mark : GoodIn wsX5_makeThing wsX0_mark := goodIn_r _ [58, 53, 20, 21, 22, 13, 23, 19, 69, 70, 71, 72, 73] (by decide +kernel) (by decide +kernel)
set_option maxRecDepth 20000 in
theorem gX5_makeThing_X0_mark : GoodIn wsX5_makeThing (wsV RX5 124 RX0 yX0_mark wsX0_mark) := goodIn_app (goodIn_of _ (by decide +kernel)) ggX5_makeThing_X0_mark
theorem dX5_makeThing_0 : decode cX5_makeThing 0 = .ok (.iload_n 1, 1) := by decide +kernel
theorem dX5_makeThing_1 : decode cX5_makeThing 1 = .ok (.iconst 1, 1) := by decide +kernel
theorem dX5_makeThing_2 : decode cX5_makeThing 2 = .ok (.if_icmp .lt 16, 3) := by decide +kernel
theorem dX5_makeThing_5 : decode cX5_makeThing 5 = .ok (.iload_n 1, 1) := by decide +kernel
theorem dX5_makeThing_6 : decode cX5_makeThing 6 = .ok (.bipush 12, 2) := by decide +kernel
theorem dX5_makeThing_8 : decode cX5_makeThing 8 = .ok (.if_icmp .gt 10, 3) := by decide +kernel
theorem dX5_makeThing_11 : decode cX5_makeThing 11 = .ok (.iload_n 2, 1) := by decide +kernel
theorem dX5_makeThing_12 : decode cX5_makeThing 12 = .ok (.invokestatic 71, 3) := by decide +kernel
theorem dX5_makeThing_15 : decode cX5_makeThing 15 = .ok (.ifCond .ne 5, 3) := by decide +kernel
theorem dX5_makeThing_18 : decode cX5_makeThing 18 = .ok (.iconst (-1), 1) := by decide +kernel
theorem dX5_makeThing_19 : decode cX5_makeThing 19 = .ok (.ireturn, 1) := by decide +kernel
theorem dX5_makeThing_20 : decode cX5_makeThing 20 = .ok (.iload_n 1, 1) := by decide +kernel
theorem dX5_makeThing_21 : decode cX5_makeThing 21 = .ok (.aload_n 0, 1) := by decide +kernel
theorem dX5_makeThing_22 : decode cX5_makeThing 22 = .ok (.getfield 29, 3) := by decide +kernel
theorem dX5_makeThing_25 : decode cX5_makeThing 25 = .ok (.if_icmp .lt 7, 3) := by decide +kernel
theorem dX5_makeThing_28 : decode cX5_makeThing 28 = .ok (.iconst 1, 1) := by decide +kernel
theorem dX5_makeThing_29 : decode cX5_makeThing 29 = .ok (.goto 4, 3) := by decide +kernel
theorem dX5_makeThing_32 : decode cX5_makeThing 32 = .ok (.iconst 0, 1) := by decide +kernel
theorem dX5_makeThing_33 : decode cX5_makeThing 33 = .ok (.istore_n 3, 1) := by decide +kernel
theorem dX5_makeThing_34 : decode cX5_makeThing 34 = .ok (.iload_n 3, 1) := by decide +kernel
theorem dX5_makeThing_35 : decode cX5_makeThing 35 = .ok (.ifCond .eq 14, 3) := by decide +kernel
theorem dX5_makeThing_38 : decode cX5_makeThing 38 = .ok (.aload_n 0, 1) := by decide +kernel
theorem dX5_makeThing_39 : decode cX5_makeThing 39 = .ok (.getfield 18, 3) := by decide +kernel
theorem dX5_makeThing_42 : decode cX5_makeThing 42 = .ok (.iload_n 1, 1) := by decide +kernel
theorem dX5_makeThing_43 : decode cX5_makeThing 43 = .ok (.invokevirtual 114, 3) := by decide +kernel
theorem dX5_makeThing_46 : decode cX5_makeThing 46 = .ok (.goto 8, 3) := by decide +kernel
theorem dX5_makeThing_49 : decode cX5_makeThing 49 = .ok (.aload_n 0, 1) := by decide +kernel
theorem dX5_makeThing_50 : decode cX5_makeThing 50 = .ok (.iload_n 1, 1) := by decide +kernel
theorem dX5_makeThing_51 : decode cX5_makeThing 51 = .ok (.invokevirtual 117, 3) := by decide +kernel
theorem dX5_makeThing_54 : decode cX5_makeThing 54 = .ok (.istore 4, 2) := by decide +kernel
theorem dX5_makeThing_56 : decode cX5_makeThing 56 = .ok (.aload_n 0, 1) := by decide +kernel
theorem dX5_makeThing_57 : decode cX5_makeThing 57 = .ok (.getfield 52, 3) := by decide +kernel
theorem dX5_makeThing_60 : decode cX5_makeThing 60 = .ok (.bipush 40, 2) := by decide +kernel
theorem dX5_makeThing_62 : decode cX5_makeThing 62 = .ok (.if_icmp .ge 11, 3) := by decide +kernel
theorem dX5_makeThing_65 : decode cX5_makeThing 65 = .ok (.iload 4, 2) := by decide +kernel
theorem dX5_makeThing_67 : decode cX5_makeThing 67 = .ok (.sipush 300, 3) := by decide +kernel
theorem dX5_makeThing_70 : decode cX5_makeThing 70 = .ok (.if_icmp .ne 6, 3) := by decide +kernel
theorem dX5_makeThing_73 : decode cX5_makeThing 73 = .ok (.bipush (-3), 2) := by decide +kernel
theorem dX5_makeThing_75 : decode cX5_makeThing 75 = .ok (.ireturn, 1) := by decide +kernel
theorem dX5_makeThing_76 : decode cX5_makeThing 76 = .ok (.aload_n 0, 1) := by decide +kernel
theorem dX5_makeThing_77 : decode cX5_makeThing 77 = .ok (.getfield 18, 3) := by decide +kernel
theorem dX5_makeThing_80 : decode cX5_makeThing 80 = .ok (.iload 4, 2) := by decide +kernel
theorem dX5_makeThing_82 : decode cX5_makeThing 82 = .ok (.aload_n 0, 1) := by decide +kernel
theorem dX5_makeThing_83 : decode cX5_makeThing 83 = .ok (.getfield 52, 3) := by decide +kernel
theorem dX5_makeThing_86 : decode cX5_makeThing 86 = .ok (.iload_n 1, 1) := by decide +kernel
theorem dX5_makeThing_87 : decode cX5_makeThing 87 = .ok (.invokevirtual 120, 3) := by decide +kernel
theorem dX5_makeThing_90 : decode cX5_makeThing 90 = .ok (.iload_n 3, 1) := by decide +kernel
theorem dX5_makeThing_91 : decode cX5_makeThing 91 = .ok (.ifCond .ne 16, 3) := by decide +kernel
theorem dX5_makeThing_94 : decode cX5_makeThing 94 = .ok (.aload_n 0, 1) := by decide +kernel
theorem dX5_makeThing_95 : decode cX5_makeThing 95 = .ok (.dup, 1) := by decide +kernel
theorem dX5_makeThing_96 : decode cX5_makeThing 96 = .ok (.getfield 62, 3) := by decide +kernel
theorem dX5_makeThing_99 : decode cX5_makeThing 99 = .ok (.iload_n 1, 1) := by decide +kernel
theorem dX5_makeThing_100 : decode cX5_makeThing 100 = .ok (.iadd, 1) := by decide +kernel
theorem dX5_makeThing_101 : decode cX5_makeThing 101 = .ok (.putfield 62, 3) := by decide +kernel
theorem dX5_makeThing_104 : decode cX5_makeThing 104 = .ok (.goto 20, 3) := by decide +kernel
theorem dX5_makeThing_107 : decode cX5_makeThing 107 = .ok (.aload_n 0, 1) := by decide +kernel
theorem dX5_makeThing_108 : decode cX5_makeThing 108 = .ok (.getfield 55, 3) := by decide +kernel
theorem dX5_makeThing_111 : decode cX5_makeThing 111 = .ok (.ifCond .eq 13, 3) := by decide +kernel
theorem dX5_makeThing_114 : decode cX5_makeThing 114 = .ok (.aload_n 0, 1) := by decide +kernel
theorem dX5_makeThing_115 : decode cX5_makeThing 115 = .ok (.getfield 18, 3) := by decide +kernel
theorem dX5_makeThing_118 : decode cX5_makeThing 118 = .ok (.iload 4, 2) := by decide +kernel
theorem dX5_makeThing_120 : decode cX5_makeThing 120 = .ok (.invokevirtual 124, 3) := by decide +kernel
theorem dX5_makeThing_123 : decode cX5_makeThing 123 = .ok (.pop, 1) := by decide +kernel
theorem dX5_makeThing_124 : decode cX5_makeThing 124 = .ok (.aload_n 0, 1) := by decide +kernel
theorem dX5_makeThing_125 : decode cX5_makeThing 125 = .ok (.getfield 9, 3) := by decide +kernel
theorem dX5_makeThing_128 : decode cX5_makeThing 128 = .ok (.iload_n 2, 1) := by decide +kernel
theorem dX5_makeThing_129 : decode cX5_makeThing 129 = .ok (.iload 4, 2) := by decide +kernel
theorem dX5_makeThing_131 : decode cX5_makeThing 131 = .ok (.iastore, 1) := by decide +kernel
theorem dX5_makeThing_132 : decode cX5_makeThing 132 = .ok (.aload_n 0, 1) := by decide +kernel
theorem dX5_makeThing_133 : decode cX5_makeThing 133 = .ok (.dup, 1) := by decide +kernel
theorem dX5_makeThing_134 : decode cX5_makeThing 134 = .ok (.getfield 52, 3) := by decide +kernel
theorem dX5_makeThing_137 : decode cX5_makeThing 137 = .ok (.iconst 1, 1) := by decide +kernel
theorem dX5_makeThing_138 : decode cX5_makeThing 138 = .ok (.iadd, 1) := by decide +kernel
theorem dX5_makeThing_139 : decode cX5_makeThing 139 = .ok (.putfield 52, 3) := by decide +kernel
theorem dX5_makeThing_142 : decode cX5_makeThing 142 = .ok (.aload_n 0, 1) := by decide +kernel
theorem dX5_makeThing_143 : decode cX5_makeThing 143 = .ok (.getfield 52, 3) := by decide +kernel
theorem dX5_makeThing_146 : decode cX5_makeThing 146 = .ok (.iconst 1, 1) := by decide +kernel
theorem dX5_makeThing_147 : decode cX5_makeThing 147 = .ok (.isub, 1) := by decide +kernel
theorem dX5_makeThing_148 : decode cX5_makeThing 148 = .ok (.ireturn, 1) := by decide +kernel
set_option maxRecDepth 20000 in
theorem ggX5_halfAddressFor_X5_freeInHalf : GoodIn wsX5_halfAddressFor wsX5_freeInHalf := goodIn_r _ [7, 2, 33, 34, 35, 36, 37, 38, 39, 40, 41, 42] (by decide +kernel) (by decide +kernel)
set_option maxRecDepth 20000 in
theorem gX5_halfAddressFor_X5_freeInHalf : GoodIn wsX5_halfAddressFor (wsV RX5 99 RX5 yX5_freeInHalf wsX5_freeInHalf) := goodIn_app (goodIn_of _ (by decide +kernel)) ggX5_halfAddressFor_X5_freeInHalf
set_option maxRecDepth 20000 in
theorem ggX5_halfAddressFor_X5_roomKept : GoodIn wsX5_halfAddressFor wsX5_roomKept := goodIn_r _ [11, 1, 12, 13, 14, 15, 16, 6, 17, 18, 19, 20, 21, 22, 23, 24, 25, 26, 27, 28, 29, 30, 31, 32, 33, 34, 35, 36, 37, 38, 39, 40, 41, 42, 43, 44, 45, 46, 47] (by decide +kernel) (by decide +kernel)
set_option maxRecDepth 20000 in
theorem gX5_halfAddressFor_X5_roomKept : GoodIn wsX5_halfAddressFor (wsV RX5 108 RX5 yX5_roomKept wsX5_roomKept) := goodIn_app (goodIn_of _ (by decide +kernel)) ggX5_halfAddressFor_X5_roomKept
set_option maxRecDepth 20000 in
theorem ggX5_halfAddressFor_X5_addressOfHalf : GoodIn wsX5_halfAddressFor wsX5_addressOfHalf := goodIn_r _ [17] (by decide +kernel) (by decide +kernel)
set_option maxRecDepth 20000 in
theorem gX5_halfAddressFor_X5_addressOfHalf : GoodIn wsX5_halfAddressFor (wsV RX5 75 RX5 yX5_addressOfHalf wsX5_addressOfHalf) := goodIn_app (goodIn_of _ (by decide +kernel)) ggX5_halfAddressFor_X5_addressOfHalf
theorem dX5_halfAddressFor_0 : decode cX5_halfAddressFor 0 = .ok (.aload_n 0, 1) := by decide +kernel
theorem dX5_halfAddressFor_1 : decode cX5_halfAddressFor 1 = .ok (.invokevirtual 99, 3) := by decide +kernel
theorem dX5_halfAddressFor_4 : decode cX5_halfAddressFor 4 = .ok (.iload_n 1, 1) := by decide +kernel
theorem dX5_halfAddressFor_5 : decode cX5_halfAddressFor 5 = .ok (.isub, 1) := by decide +kernel
theorem dX5_halfAddressFor_6 : decode cX5_halfAddressFor 6 = .ok (.aload_n 0, 1) := by decide +kernel
theorem dX5_halfAddressFor_7 : decode cX5_halfAddressFor 7 = .ok (.invokevirtual 108, 3) := by decide +kernel
theorem dX5_halfAddressFor_10 : decode cX5_halfAddressFor 10 = .ok (.if_icmp .lt 19, 3) := by decide +kernel
theorem dX5_halfAddressFor_13 : decode cX5_halfAddressFor 13 = .ok (.aload_n 0, 1) := by decide +kernel
theorem dX5_halfAddressFor_14 : decode cX5_halfAddressFor 14 = .ok (.aload_n 0, 1) := by decide +kernel
theorem dX5_halfAddressFor_15 : decode cX5_halfAddressFor 15 = .ok (.getfield 59, 3) := by decide +kernel
theorem dX5_halfAddressFor_18 : decode cX5_halfAddressFor 18 = .ok (.invokevirtual 75, 3) := by decide +kernel
theorem dX5_halfAddressFor_21 : decode cX5_halfAddressFor 21 = .ok (.aload_n 0, 1) := by decide +kernel
theorem dX5_halfAddressFor_22 : decode cX5_halfAddressFor 22 = .ok (.getfield 62, 3) := by decide +kernel
theorem dX5_halfAddressFor_25 : decode cX5_halfAddressFor 25 = .ok (.iadd, 1) := by decide +kernel
theorem dX5_halfAddressFor_26 : decode cX5_halfAddressFor 26 = .ok (.goto 6, 3) := by decide +kernel
theorem dX5_halfAddressFor_29 : decode cX5_halfAddressFor 29 = .ok (.sipush 300, 3) := by decide +kernel
theorem dX5_halfAddressFor_32 : decode cX5_halfAddressFor 32 = .ok (.ireturn, 1) := by decide +kernel
set_option maxRecDepth 20000 in
theorem ggX5_linkHooks_X7_isHook : GoodIn wsX5_linkHooks wsX7_isHook := goodIn_r _ [5] (by decide +kernel) (by decide +kernel)
set_option maxRecDepth 20000 in
theorem gX5_linkHooks_X7_isHook_n71 : GoodIn wsX5_linkHooks (wsX7_isHook) := ggX5_linkHooks_X7_isHook
set_option maxRecDepth 20000 in
theorem ggX5_linkHooks_X7_isName : GoodIn wsX5_linkHooks wsX7_isName := goodIn_r _ [7] (by decide +kernel) (by decide +kernel)
set_option maxRecDepth 20000 in
theorem gX5_linkHooks_X7_isName_n127 : GoodIn wsX5_linkHooks (wsX7_isName) := ggX5_linkHooks_X7_isName
set_option maxRecDepth 20000 in
theorem ggX5_linkHooks_X5_readIn : GoodIn wsX5_linkHooks wsX5_readIn := goodIn_r _ [12, 2, 13, 14, 15, 16, 17, 11, 18, 19, 20, 21, 22, 23, 24, 25, 26, 27, 28, 29, 30, 31, 32, 33, 34, 35, 36, 37, 38, 39, 40, 41, 42, 43, 44, 45, 46, 47, 48, 49, 50, 51, 52, 53, 54, 55, 56, 57, 58, 59, 60, 61, 62, 63, 64, 65, 70, 71, 72, 73, 74, 75, 76, 77, 78, 79, 80, 81, 82, 83, 84, 85, 86, 87] (by decide +kernel) (by decide +kernel)
set_option maxRecDepth 20000 in
theorem gX5_linkHooks_X5_readIn : GoodIn wsX5_linkHooks (wsV RX5 130 RX5 yX5_readIn wsX5_readIn) := goodIn_app (goodIn_of _ (by decide +kernel)) ggX5_linkHooks_X5_readIn
set_option maxRecDepth 20000 in
theorem ggX5_linkHooks_X0_setName : GoodIn wsX5_linkHooks wsX0_setName := goodIn_r _ [69, 54, 30, 31, 32, 27, 33, 34, 6, 4, 7, 80, 81, 82, 83, 84] (by decide +kernel) (by decide +kernel)
set_option maxRecDepth 20000 in
theorem gX5_linkHooks_X0_setName : GoodIn wsX5_linkHooks (wsV RX5 134 RX0 yX0_setName wsX0_setName) := goodIn_app (goodIn_of _ (by decide +kernel)) ggX5_linkHooks_X0_setName
theorem dX5_linkHooks_0 : decode cX5_linkHooks 0 = .ok (.iload_n 1, 1) := by decide +kernel
theorem dX5_linkHooks_1 : decode cX5_linkHooks 1 = .ok (.invokestatic 71, 3) := by decide +kernel
theorem dX5_linkHooks_4 : decode cX5_linkHooks 4 = .ok (.ifCond .eq 17, 3) := by decide +kernel
theorem dX5_linkHooks_7 : decode cX5_linkHooks 7 = .ok (.iload_n 2, 1) := by decide +kernel
theorem dX5_linkHooks_8 : decode cX5_linkHooks 8 = .ok (.invokestatic 127, 3) := by decide +kernel
theorem dX5_linkHooks_11 : decode cX5_linkHooks 11 = .ok (.ifCond .eq 10, 3) := by decide +kernel
theorem dX5_linkHooks_14 : decode cX5_linkHooks 14 = .ok (.iload_n 3, 1) := by decide +kernel
theorem dX5_linkHooks_15 : decode cX5_linkHooks 15 = .ok (.invokestatic 71, 3) := by decide +kernel
theorem dX5_linkHooks_18 : decode cX5_linkHooks 18 = .ok (.ifCond .ne 5, 3) := by decide +kernel
theorem dX5_linkHooks_21 : decode cX5_linkHooks 21 = .ok (.iconst (-1), 1) := by decide +kernel
theorem dX5_linkHooks_22 : decode cX5_linkHooks 22 = .ok (.ireturn, 1) := by decide +kernel
theorem dX5_linkHooks_23 : decode cX5_linkHooks 23 = .ok (.aload_n 0, 1) := by decide +kernel
theorem dX5_linkHooks_24 : decode cX5_linkHooks 24 = .ok (.getfield 9, 3) := by decide +kernel
theorem dX5_linkHooks_27 : decode cX5_linkHooks 27 = .ok (.iload_n 1, 1) := by decide +kernel
theorem dX5_linkHooks_28 : decode cX5_linkHooks 28 = .ok (.iaload, 1) := by decide +kernel
theorem dX5_linkHooks_29 : decode cX5_linkHooks 29 = .ok (.sipush 300, 3) := by decide +kernel
theorem dX5_linkHooks_32 : decode cX5_linkHooks 32 = .ok (.if_icmp .ne 6, 3) := by decide +kernel
theorem dX5_linkHooks_35 : decode cX5_linkHooks 35 = .ok (.bipush (-2), 2) := by decide +kernel
theorem dX5_linkHooks_37 : decode cX5_linkHooks 37 = .ok (.ireturn, 1) := by decide +kernel
theorem dX5_linkHooks_38 : decode cX5_linkHooks 38 = .ok (.aload_n 0, 1) := by decide +kernel
theorem dX5_linkHooks_39 : decode cX5_linkHooks 39 = .ok (.aload_n 0, 1) := by decide +kernel
theorem dX5_linkHooks_40 : decode cX5_linkHooks 40 = .ok (.getfield 9, 3) := by decide +kernel
theorem dX5_linkHooks_43 : decode cX5_linkHooks 43 = .ok (.iload_n 1, 1) := by decide +kernel
theorem dX5_linkHooks_44 : decode cX5_linkHooks 44 = .ok (.invokevirtual 130, 3) := by decide +kernel
theorem dX5_linkHooks_47 : decode cX5_linkHooks 47 = .ok (.istore 4, 2) := by decide +kernel
theorem dX5_linkHooks_49 : decode cX5_linkHooks 49 = .ok (.aload_n 0, 1) := by decide +kernel
theorem dX5_linkHooks_50 : decode cX5_linkHooks 50 = .ok (.aload_n 0, 1) := by decide +kernel
theorem dX5_linkHooks_51 : decode cX5_linkHooks 51 = .ok (.getfield 9, 3) := by decide +kernel
theorem dX5_linkHooks_54 : decode cX5_linkHooks 54 = .ok (.iload_n 3, 1) := by decide +kernel
theorem dX5_linkHooks_55 : decode cX5_linkHooks 55 = .ok (.invokevirtual 130, 3) := by decide +kernel
theorem dX5_linkHooks_58 : decode cX5_linkHooks 58 = .ok (.istore 5, 2) := by decide +kernel
theorem dX5_linkHooks_60 : decode cX5_linkHooks 60 = .ok (.aload_n 0, 1) := by decide +kernel
theorem dX5_linkHooks_61 : decode cX5_linkHooks 61 = .ok (.getfield 18, 3) := by decide +kernel
theorem dX5_linkHooks_64 : decode cX5_linkHooks 64 = .ok (.iload 4, 2) := by decide +kernel
theorem dX5_linkHooks_66 : decode cX5_linkHooks 66 = .ok (.iload_n 2, 1) := by decide +kernel
theorem dX5_linkHooks_67 : decode cX5_linkHooks 67 = .ok (.iload 5, 2) := by decide +kernel
theorem dX5_linkHooks_69 : decode cX5_linkHooks 69 = .ok (.invokevirtual 134, 3) := by decide +kernel
theorem dX5_linkHooks_72 : decode cX5_linkHooks 72 = .ok (.iload 5, 2) := by decide +kernel
theorem dX5_linkHooks_74 : decode cX5_linkHooks 74 = .ok (.ireturn, 1) := by decide +kernel
set_option maxRecDepth 20000 in
theorem ggX5_followName_X7_isHook : GoodIn wsX5_followName wsX7_isHook := goodIn_r _ [5] (by decide +kernel) (by decide +kernel)
set_option maxRecDepth 20000 in
theorem gX5_followName_X7_isHook_n71 : GoodIn wsX5_followName (wsX7_isHook) := ggX5_followName_X7_isHook
set_option maxRecDepth 20000 in
theorem ggX5_followName_X7_isName : GoodIn wsX5_followName wsX7_isName := goodIn_r _ [7] (by decide +kernel) (by decide +kernel)
set_option maxRecDepth 20000 in
theorem gX5_followName_X7_isName_n127 : GoodIn wsX5_followName (wsX7_isName) := ggX5_followName_X7_isName
set_option maxRecDepth 20000 in
theorem ggX5_followName_X5_readIn : GoodIn wsX5_followName wsX5_readIn := goodIn_r _ [12, 2, 13, 14, 15, 16, 17, 11, 18, 19, 20, 21, 22, 23, 24, 25, 26, 27, 28, 29, 30, 31, 32, 33, 34, 35, 36, 37, 38, 39, 40, 41, 42, 43, 44, 45, 46, 47, 48, 49, 50, 51, 52, 53, 54, 55, 56, 57, 58, 59, 60, 61, 62, 63, 64, 65, 66, 67, 68, 69, 70, 71, 72, 73, 74, 75, 76, 77, 78, 79, 80, 81, 82, 83] (by decide +kernel) (by decide +kernel)
set_option maxRecDepth 20000 in
theorem gX5_followName_X5_readIn : GoodIn wsX5_followName (wsV RX5 130 RX5 yX5_readIn wsX5_readIn) := goodIn_app (goodIn_of _ (by decide +kernel)) ggX5_followName_X5_readIn
theorem dX5_followName_0 : decode cX5_followName 0 = .ok (.iload_n 1, 1) := by decide +kernel
theorem dX5_followName_1 : decode cX5_followName 1 = .ok (.invokestatic 71, 3) := by decide +kernel
theorem dX5_followName_4 : decode cX5_followName 4 = .ok (.ifCond .eq 17, 3) := by decide +kernel
theorem dX5_followName_7 : decode cX5_followName 7 = .ok (.iload_n 2, 1) := by decide +kernel
theorem dX5_followName_8 : decode cX5_followName 8 = .ok (.invokestatic 127, 3) := by decide +kernel
theorem dX5_followName_11 : decode cX5_followName 11 = .ok (.ifCond .eq 10, 3) := by decide +kernel
theorem dX5_followName_14 : decode cX5_followName 14 = .ok (.iload_n 3, 1) := by decide +kernel
theorem dX5_followName_15 : decode cX5_followName 15 = .ok (.invokestatic 71, 3) := by decide +kernel
theorem dX5_followName_18 : decode cX5_followName 18 = .ok (.ifCond .ne 5, 3) := by decide +kernel
theorem dX5_followName_21 : decode cX5_followName 21 = .ok (.iconst (-1), 1) := by decide +kernel
theorem dX5_followName_22 : decode cX5_followName 22 = .ok (.ireturn, 1) := by decide +kernel
theorem dX5_followName_23 : decode cX5_followName 23 = .ok (.aload_n 0, 1) := by decide +kernel
theorem dX5_followName_24 : decode cX5_followName 24 = .ok (.getfield 9, 3) := by decide +kernel
theorem dX5_followName_27 : decode cX5_followName 27 = .ok (.iload_n 1, 1) := by decide +kernel
theorem dX5_followName_28 : decode cX5_followName 28 = .ok (.iaload, 1) := by decide +kernel
theorem dX5_followName_29 : decode cX5_followName 29 = .ok (.sipush 300, 3) := by decide +kernel
theorem dX5_followName_32 : decode cX5_followName 32 = .ok (.if_icmp .ne 6, 3) := by decide +kernel
theorem dX5_followName_35 : decode cX5_followName 35 = .ok (.bipush (-2), 2) := by decide +kernel
theorem dX5_followName_37 : decode cX5_followName 37 = .ok (.ireturn, 1) := by decide +kernel
theorem dX5_followName_38 : decode cX5_followName 38 = .ok (.aload_n 0, 1) := by decide +kernel
theorem dX5_followName_39 : decode cX5_followName 39 = .ok (.aload_n 0, 1) := by decide +kernel
theorem dX5_followName_40 : decode cX5_followName 40 = .ok (.getfield 9, 3) := by decide +kernel
theorem dX5_followName_43 : decode cX5_followName 43 = .ok (.iload_n 1, 1) := by decide +kernel
theorem dX5_followName_44 : decode cX5_followName 44 = .ok (.invokevirtual 130, 3) := by decide +kernel
theorem dX5_followName_47 : decode cX5_followName 47 = .ok (.istore 4, 2) := by decide +kernel
theorem dX5_followName_49 : decode cX5_followName 49 = .ok (.aload_n 0, 1) := by decide +kernel
theorem dX5_followName_50 : decode cX5_followName 50 = .ok (.getfield 9, 3) := by decide +kernel
theorem dX5_followName_53 : decode cX5_followName 53 = .ok (.iload_n 3, 1) := by decide +kernel
theorem dX5_followName_54 : decode cX5_followName 54 = .ok (.aload_n 0, 1) := by decide +kernel
theorem dX5_followName_55 : decode cX5_followName 55 = .ok (.aload_n 0, 1) := by decide +kernel
theorem dX5_followName_56 : decode cX5_followName 56 = .ok (.getfield 18, 3) := by decide +kernel
theorem dX5_followName_59 : decode cX5_followName 59 = .ok (.getfield 137, 3) := by decide +kernel
theorem dX5_followName_62 : decode cX5_followName 62 = .ok (.iload 4, 2) := by decide +kernel
theorem dX5_followName_64 : decode cX5_followName 64 = .ok (.iconst 2, 1) := by decide +kernel
theorem dX5_followName_65 : decode cX5_followName 65 = .ok (.imul, 1) := by decide +kernel
theorem dX5_followName_66 : decode cX5_followName 66 = .ok (.iload_n 2, 1) := by decide +kernel
theorem dX5_followName_67 : decode cX5_followName 67 = .ok (.iadd, 1) := by decide +kernel
theorem dX5_followName_68 : decode cX5_followName 68 = .ok (.invokevirtual 130, 3) := by decide +kernel
theorem dX5_followName_71 : decode cX5_followName 71 = .ok (.iastore, 1) := by decide +kernel
theorem dX5_followName_72 : decode cX5_followName 72 = .ok (.aload_n 0, 1) := by decide +kernel
theorem dX5_followName_73 : decode cX5_followName 73 = .ok (.getfield 9, 3) := by decide +kernel
theorem dX5_followName_76 : decode cX5_followName 76 = .ok (.iload_n 3, 1) := by decide +kernel
theorem dX5_followName_77 : decode cX5_followName 77 = .ok (.iaload, 1) := by decide +kernel
theorem dX5_followName_78 : decode cX5_followName 78 = .ok (.ireturn, 1) := by decide +kernel
set_option maxRecDepth 20000 in
theorem ggX5_dropHook_X7_isHook : GoodIn wsX5_dropHook wsX7_isHook := goodIn_r _ [4] (by decide +kernel) (by decide +kernel)
set_option maxRecDepth 20000 in
theorem gX5_dropHook_X7_isHook_n71 : GoodIn wsX5_dropHook (wsX7_isHook) := ggX5_dropHook_X7_isHook
theorem dX5_dropHook_0 : decode cX5_dropHook 0 = .ok (.iload_n 1, 1) := by decide +kernel
theorem dX5_dropHook_1 : decode cX5_dropHook 1 = .ok (.invokestatic 71, 3) := by decide +kernel
theorem dX5_dropHook_4 : decode cX5_dropHook 4 = .ok (.ifCond .ne 5, 3) := by decide +kernel
theorem dX5_dropHook_7 : decode cX5_dropHook 7 = .ok (.iconst (-1), 1) := by decide +kernel
theorem dX5_dropHook_8 : decode cX5_dropHook 8 = .ok (.ireturn, 1) := by decide +kernel
theorem dX5_dropHook_9 : decode cX5_dropHook 9 = .ok (.aload_n 0, 1) := by decide +kernel
theorem dX5_dropHook_10 : decode cX5_dropHook 10 = .ok (.getfield 9, 3) := by decide +kernel
theorem dX5_dropHook_13 : decode cX5_dropHook 13 = .ok (.iload_n 1, 1) := by decide +kernel
