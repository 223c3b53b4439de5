theorem dX5_dropHook_14 : decode cX5_dropHook 14 = .ok (.iaload, 1) := by decide +kernel
theorem dX5_dropHook_15 : decode cX5_dropHook 15 = .ok (.istore_n 2, 1) := by decide +kernel
theorem dX5_dropHook_16 : decode cX5_dropHook 16 = .ok (.aload_n 0, 1) := by decide +kernel
theorem dX5_dropHook_17 : decode cX5_dropHook 17 = .ok (.getfield 9, 3) := by decide +kernel
theorem dX5_dropHook_20 : decode cX5_dropHook 20 = .ok (.iload_n 1, 1) := by decide +kernel
theorem dX5_dropHook_21 : decode cX5_dropHook 21 = .ok (.sipush 300, 3) := by decide +kernel
theorem dX5_dropHook_24 : decode cX5_dropHook 24 = .ok (.iastore, 1) := by decide +kernel
theorem dX5_dropHook_25 : decode cX5_dropHook 25 = .ok (.iload_n 2, 1) := by decide +kernel
theorem dX5_dropHook_26 : decode cX5_dropHook 26 = .ok (.ireturn, 1) := by decide +kernel
set_option maxRecDepth 20000 in
theorem ggX5_beginMove_X3_clear : GoodIn wsX5_beginMove wsX3_clear := goodIn_r _ [10, 11, 12, 97, 98, 99] (by decide +kernel) (by decide +kernel)
set_option maxRecDepth 20000 in
theorem gX5_beginMove_X3_clear : GoodIn wsX5_beginMove (wsV RX5 140 RX3 yX3_clear wsX3_clear) := goodIn_app (goodIn_of _ (by decide +kernel)) ggX5_beginMove_X3_clear
set_option maxRecDepth 20000 in
theorem ggX5_beginMove_X5_readIn : GoodIn wsX5_beginMove wsX5_readIn := goodIn_r _ [17, 18, 1, 4, 19, 20, 21, 16, 22, 2, 23, 24, 25, 26, 27, 28, 29, 30, 31, 32, 33, 34, 35, 36, 37, 38, 39, 40, 41, 42, 43, 44, 45, 3, 46, 47, 48, 49, 50, 51, 52, 53, 54, 55, 56, 57, 58, 59, 9, 60, 12, 61, 62, 63, 64, 65, 87, 88, 89, 90, 91, 92, 93, 94, 95, 96, 100, 101, 102, 103, 104, 97, 98, 99] (by decide +kernel) (by decide +kernel)
set_option maxRecDepth 20000 in
theorem gX5_beginMove_X5_readIn : GoodIn wsX5_beginMove (wsV RX5 130 RX5 yX5_readIn wsX5_readIn) := goodIn_app (goodIn_of _ (by decide +kernel)) ggX5_beginMove_X5_readIn
set_option maxRecDepth 20000 in
theorem ggX5_beginMove_X3_size : GoodIn wsX5_beginMove wsX3_size := goodIn_r _ [69, 12, 11, 97, 98, 99] (by decide +kernel) (by decide +kernel)
set_option maxRecDepth 20000 in
theorem gX5_beginMove_X3_size : GoodIn wsX5_beginMove (wsV RX5 105 RX3 yX3_size wsX3_size) := goodIn_app (goodIn_of _ (by decide +kernel)) ggX5_beginMove_X3_size
set_option maxRecDepth 20000 in
theorem ggX5_beginMove_X5_endMove : GoodIn wsX5_beginMove wsX5_endMove := goodIn_r _ [73, 18, 2, 1, 74, 75, 76, 77, 30, 78, 79, 80, 81, 82, 37, 83, 84, 85, 86, 55, 87, 88, 89, 90, 91, 92, 93, 94, 95, 96, 100, 101, 102, 103, 104] (by decide +kernel) (by decide +kernel)
set_option maxRecDepth 20000 in
theorem gX5_beginMove_X5_endMove : GoodIn wsX5_beginMove (wsV RX5 143 RX5 yX5_endMove wsX5_endMove) := goodIn_app (goodIn_of _ (by decide +kernel)) ggX5_beginMove_X5_endMove
theorem dX5_beginMove_0 : decode cX5_beginMove 0 = .ok (.aload_n 0, 1) := by decide +kernel
theorem dX5_beginMove_1 : decode cX5_beginMove 1 = .ok (.getfield 55, 3) := by decide +kernel
theorem dX5_beginMove_4 : decode cX5_beginMove 4 = .ok (.ifCond .eq 6, 3) := by decide +kernel
theorem dX5_beginMove_7 : decode cX5_beginMove 7 = .ok (.bipush (-2), 2) := by decide +kernel
theorem dX5_beginMove_9 : decode cX5_beginMove 9 = .ok (.ireturn, 1) := by decide +kernel
theorem dX5_beginMove_10 : decode cX5_beginMove 10 = .ok (.aload_n 0, 1) := by decide +kernel
theorem dX5_beginMove_11 : decode cX5_beginMove 11 = .ok (.iconst 1, 1) := by decide +kernel
theorem dX5_beginMove_12 : decode cX5_beginMove 12 = .ok (.putfield 55, 3) := by decide +kernel
theorem dX5_beginMove_15 : decode cX5_beginMove 15 = .ok (.aload_n 0, 1) := by decide +kernel
theorem dX5_beginMove_16 : decode cX5_beginMove 16 = .ok (.iconst 1, 1) := by decide +kernel
theorem dX5_beginMove_17 : decode cX5_beginMove 17 = .ok (.aload_n 0, 1) := by decide +kernel
theorem dX5_beginMove_18 : decode cX5_beginMove 18 = .ok (.getfield 59, 3) := by decide +kernel
theorem dX5_beginMove_21 : decode cX5_beginMove 21 = .ok (.isub, 1) := by decide +kernel
theorem dX5_beginMove_22 : decode cX5_beginMove 22 = .ok (.putfield 59, 3) := by decide +kernel
theorem dX5_beginMove_25 : decode cX5_beginMove 25 = .ok (.aload_n 0, 1) := by decide +kernel
theorem dX5_beginMove_26 : decode cX5_beginMove 26 = .ok (.iconst 0, 1) := by decide +kernel
theorem dX5_beginMove_27 : decode cX5_beginMove 27 = .ok (.putfield 62, 3) := by decide +kernel
theorem dX5_beginMove_30 : decode cX5_beginMove 30 = .ok (.aload_n 0, 1) := by decide +kernel
theorem dX5_beginMove_31 : decode cX5_beginMove 31 = .ok (.getfield 25, 3) := by decide +kernel
theorem dX5_beginMove_34 : decode cX5_beginMove 34 = .ok (.invokevirtual 140, 3) := by decide +kernel
theorem dX5_beginMove_37 : decode cX5_beginMove 37 = .ok (.iconst 0, 1) := by decide +kernel
theorem dX5_beginMove_38 : decode cX5_beginMove 38 = .ok (.istore_n 1, 1) := by decide +kernel
theorem dX5_beginMove_39 : decode cX5_beginMove 39 = .ok (.iload_n 1, 1) := by decide +kernel
theorem dX5_beginMove_40 : decode cX5_beginMove 40 = .ok (.bipush 8, 2) := by decide +kernel
theorem dX5_beginMove_42 : decode cX5_beginMove 42 = .ok (.if_icmp .ge 19, 3) := by decide +kernel
theorem dX5_beginMove_45 : decode cX5_beginMove 45 = .ok (.aload_n 0, 1) := by decide +kernel
theorem dX5_beginMove_46 : decode cX5_beginMove 46 = .ok (.aload_n 0, 1) := by decide +kernel
theorem dX5_beginMove_47 : decode cX5_beginMove 47 = .ok (.getfield 9, 3) := by decide +kernel
theorem dX5_beginMove_50 : decode cX5_beginMove 50 = .ok (.iload_n 1, 1) := by decide +kernel
theorem dX5_beginMove_51 : decode cX5_beginMove 51 = .ok (.invokevirtual 130, 3) := by decide +kernel
theorem dX5_beginMove_54 : decode cX5_beginMove 54 = .ok (.pop, 1) := by decide +kernel
theorem dX5_beginMove_55 : decode cX5_beginMove 55 = .ok (.iinc 1 1, 3) := by decide +kernel
theorem dX5_beginMove_58 : decode cX5_beginMove 58 = .ok (.goto (-19), 3) := by decide +kernel
theorem dX5_beginMove_61 : decode cX5_beginMove 61 = .ok (.aload_n 0, 1) := by decide +kernel
theorem dX5_beginMove_62 : decode cX5_beginMove 62 = .ok (.getfield 25, 3) := by decide +kernel
theorem dX5_beginMove_65 : decode cX5_beginMove 65 = .ok (.invokevirtual 105, 3) := by decide +kernel
theorem dX5_beginMove_68 : decode cX5_beginMove 68 = .ok (.istore_n 1, 1) := by decide +kernel
theorem dX5_beginMove_69 : decode cX5_beginMove 69 = .ok (.iload_n 1, 1) := by decide +kernel
theorem dX5_beginMove_70 : decode cX5_beginMove 70 = .ok (.ifCond .ne 7, 3) := by decide +kernel
theorem dX5_beginMove_73 : decode cX5_beginMove 73 = .ok (.aload_n 0, 1) := by decide +kernel
theorem dX5_beginMove_74 : decode cX5_beginMove 74 = .ok (.invokevirtual 143, 3) := by decide +kernel
theorem dX5_beginMove_77 : decode cX5_beginMove 77 = .ok (.iload_n 1, 1) := by decide +kernel
theorem dX5_beginMove_78 : decode cX5_beginMove 78 = .ok (.ireturn, 1) := by decide +kernel
set_option maxRecDepth 20000 in
theorem ggX5_carrySteps_X5_stepsUpTo : GoodIn wsX5_carrySteps wsX5_stepsUpTo := goodIn_r _ [6, 1, 7, 8, 9, 10, 11, 12, 13, 14, 15, 16, 17, 18, 19, 5, 20, 21, 22, 23, 24, 25, 26, 27, 28, 29, 30, 31, 32, 33, 34, 35, 36, 37, 38, 39, 40, 41, 42, 43, 44, 45, 46, 47, 48, 49, 50, 51, 52, 53, 54, 55, 56, 57, 58, 59, 60, 61, 62, 63, 64, 65, 66, 67, 68, 69, 70, 71, 72, 73, 74, 75, 76, 77, 78, 79, 80, 81, 82, 83, 84, 85, 86, 87, 88, 89, 90, 91, 92, 93, 94, 95, 96, 97, 98, 99, 100, 101, 102, 103, 104, 105, 106, 107] (by decide +kernel) (by decide +kernel)
set_option maxRecDepth 20000 in
theorem gX5_carrySteps_X5_stepsUpTo : GoodIn wsX5_carrySteps (wsV RX5 146 RX5 yX5_stepsUpTo wsX5_stepsUpTo) := goodIn_app (goodIn_of _ (by decide +kernel)) ggX5_carrySteps_X5_stepsUpTo
theorem dX5_carrySteps_0 : decode cX5_carrySteps 0 = .ok (.iload_n 1, 1) := by decide +kernel
theorem dX5_carrySteps_1 : decode cX5_carrySteps 1 = .ok (.iconst 1, 1) := by decide +kernel
theorem dX5_carrySteps_2 : decode cX5_carrySteps 2 = .ok (.if_icmp .lt 9, 3) := by decide +kernel
theorem dX5_carrySteps_5 : decode cX5_carrySteps 5 = .ok (.iload_n 1, 1) := by decide +kernel
theorem dX5_carrySteps_6 : decode cX5_carrySteps 6 = .ok (.bipush 99, 2) := by decide +kernel
theorem dX5_carrySteps_8 : decode cX5_carrySteps 8 = .ok (.if_icmp .le 5, 3) := by decide +kernel
theorem dX5_carrySteps_11 : decode cX5_carrySteps 11 = .ok (.iconst (-1), 1) := by decide +kernel
theorem dX5_carrySteps_12 : decode cX5_carrySteps 12 = .ok (.ireturn, 1) := by decide +kernel
theorem dX5_carrySteps_13 : decode cX5_carrySteps 13 = .ok (.aload_n 0, 1) := by decide +kernel
theorem dX5_carrySteps_14 : decode cX5_carrySteps 14 = .ok (.getfield 55, 3) := by decide +kernel
theorem dX5_carrySteps_17 : decode cX5_carrySteps 17 = .ok (.ifCond .eq 11, 3) := by decide +kernel
theorem dX5_carrySteps_20 : decode cX5_carrySteps 20 = .ok (.aload_n 0, 1) := by decide +kernel
theorem dX5_carrySteps_21 : decode cX5_carrySteps 21 = .ok (.iload_n 1, 1) := by decide +kernel
theorem dX5_carrySteps_22 : decode cX5_carrySteps 22 = .ok (.invokevirtual 146, 3) := by decide +kernel
theorem dX5_carrySteps_25 : decode cX5_carrySteps 25 = .ok (.goto 5, 3) := by decide +kernel
theorem dX5_carrySteps_28 : decode cX5_carrySteps 28 = .ok (.bipush (-2), 2) := by decide +kernel
theorem dX5_carrySteps_30 : decode cX5_carrySteps 30 = .ok (.ireturn, 1) := by decide +kernel
set_option maxRecDepth 20000 in
theorem ggX5_stepsUpTo_X3_takeFirst : GoodIn wsX5_stepsUpTo wsX3_takeFirst := goodIn_r _ [8, 9, 10, 11, 101, 102, 103] (by decide +kernel) (by decide +kernel)
set_option maxRecDepth 20000 in
theorem gX5_stepsUpTo_X3_takeFirst : GoodIn wsX5_stepsUpTo (wsV RX5 149 RX3 yX3_takeFirst wsX3_takeFirst) := goodIn_app (goodIn_of _ (by decide +kernel)) ggX5_stepsUpTo_X3_takeFirst
set_option maxRecDepth 20000 in
theorem ggX5_stepsUpTo_X5_readIn : GoodIn wsX5_stepsUpTo wsX5_readIn := goodIn_r _ [16, 3, 1, 2, 17, 18, 19, 15, 20, 21, 22, 23, 24, 25, 26, 27, 28, 29, 30, 31, 32, 33, 34, 35, 36, 37, 38, 39, 40, 41, 42, 43, 44, 45, 46, 47, 48, 49, 50, 51, 52, 53, 54, 55, 56, 57, 58, 59, 7, 60, 10, 11, 61, 62, 63, 64, 86, 87, 88, 89, 90, 91, 92, 93, 94, 95, 96, 97, 98, 99, 100, 101, 102, 103] (by decide +kernel) (by decide +kernel)
set_option maxRecDepth 20000 in
theorem gX5_stepsUpTo_X5_readIn : GoodIn wsX5_stepsUpTo (wsV RX5 130 RX5 yX5_readIn wsX5_readIn) := goodIn_app (goodIn_of _ (by decide +kernel)) ggX5_stepsUpTo_X5_readIn
set_option maxRecDepth 20000 in
theorem ggX5_stepsUpTo_X3_size : GoodIn wsX5_stepsUpTo wsX3_size := goodIn_r _ [68, 10, 9, 101, 102, 103] (by decide +kernel) (by decide +kernel)
set_option maxRecDepth 20000 in
theorem gX5_stepsUpTo_X3_size : GoodIn wsX5_stepsUpTo (wsV RX5 105 RX3 yX3_size wsX3_size) := goodIn_app (goodIn_of _ (by decide +kernel)) ggX5_stepsUpTo_X3_size
set_option maxRecDepth 20000 in
theorem ggX5_stepsUpTo_X5_endMove : GoodIn wsX5_stepsUpTo wsX5_endMove := goodIn_r _ [72, 3, 21, 1, 73, 74, 75, 76, 29, 77, 78, 79, 80, 81, 36, 82, 83, 84, 85, 55, 86, 87, 88, 89, 90, 91, 92, 93, 94, 95, 96, 97, 98, 99, 100] (by decide +kernel) (by decide +kernel)
set_option maxRecDepth 20000 in
theorem gX5_stepsUpTo_X5_endMove : GoodIn wsX5_stepsUpTo (wsV RX5 143 RX5 yX5_endMove wsX5_endMove) := goodIn_app (goodIn_of _ (by decide +kernel)) ggX5_stepsUpTo_X5_endMove
theorem dX5_stepsUpTo_0 : decode cX5_stepsUpTo 0 = .ok (.iconst 0, 1) := by decide +kernel
theorem dX5_stepsUpTo_1 : decode cX5_stepsUpTo 1 = .ok (.istore_n 2, 1) := by decide +kernel
theorem dX5_stepsUpTo_2 : decode cX5_stepsUpTo 2 = .ok (.aload_n 0, 1) := by decide +kernel
theorem dX5_stepsUpTo_3 : decode cX5_stepsUpTo 3 = .ok (.getfield 55, 3) := by decide +kernel
theorem dX5_stepsUpTo_6 : decode cX5_stepsUpTo 6 = .ok (.ifCond .eq 68, 3) := by decide +kernel
theorem dX5_stepsUpTo_9 : decode cX5_stepsUpTo 9 = .ok (.iload_n 2, 1) := by decide +kernel
theorem dX5_stepsUpTo_10 : decode cX5_stepsUpTo 10 = .ok (.iload_n 1, 1) := by decide +kernel
theorem dX5_stepsUpTo_11 : decode cX5_stepsUpTo 11 = .ok (.if_icmp .ge 63, 3) := by decide +kernel
theorem dX5_stepsUpTo_14 : decode cX5_stepsUpTo 14 = .ok (.aload_n 0, 1) := by decide +kernel
theorem dX5_stepsUpTo_15 : decode cX5_stepsUpTo 15 = .ok (.getfield 25, 3) := by decide +kernel
theorem dX5_stepsUpTo_18 : decode cX5_stepsUpTo 18 = .ok (.invokevirtual 149, 3) := by decide +kernel
theorem dX5_stepsUpTo_21 : decode cX5_stepsUpTo 21 = .ok (.istore_n 3, 1) := by decide +kernel
theorem dX5_stepsUpTo_22 : decode cX5_stepsUpTo 22 = .ok (.aload_n 0, 1) := by decide +kernel
theorem dX5_stepsUpTo_23 : decode cX5_stepsUpTo 23 = .ok (.aload_n 0, 1) := by decide +kernel
theorem dX5_stepsUpTo_24 : decode cX5_stepsUpTo 24 = .ok (.getfield 18, 3) := by decide +kernel
theorem dX5_stepsUpTo_27 : decode cX5_stepsUpTo 27 = .ok (.getfield 137, 3) := by decide +kernel
theorem dX5_stepsUpTo_30 : decode cX5_stepsUpTo 30 = .ok (.iload_n 3, 1) := by decide +kernel
theorem dX5_stepsUpTo_31 : decode cX5_stepsUpTo 31 = .ok (.iconst 2, 1) := by decide +kernel
theorem dX5_stepsUpTo_32 : decode cX5_stepsUpTo 32 = .ok (.imul, 1) := by decide +kernel
theorem dX5_stepsUpTo_33 : decode cX5_stepsUpTo 33 = .ok (.invokevirtual 130, 3) := by decide +kernel
theorem dX5_stepsUpTo_36 : decode cX5_stepsUpTo 36 = .ok (.pop, 1) := by decide +kernel
theorem dX5_stepsUpTo_37 : decode cX5_stepsUpTo 37 = .ok (.aload_n 0, 1) := by decide +kernel
theorem dX5_stepsUpTo_38 : decode cX5_stepsUpTo 38 = .ok (.aload_n 0, 1) := by decide +kernel
theorem dX5_stepsUpTo_39 : decode cX5_stepsUpTo 39 = .ok (.getfield 18, 3) := by decide +kernel
theorem dX5_stepsUpTo_42 : decode cX5_stepsUpTo 42 = .ok (.getfield 137, 3) := by decide +kernel
theorem dX5_stepsUpTo_45 : decode cX5_stepsUpTo 45 = .ok (.iload_n 3, 1) := by decide +kernel
theorem dX5_stepsUpTo_46 : decode cX5_stepsUpTo 46 = .ok (.iconst 2, 1) := by decide +kernel
theorem dX5_stepsUpTo_47 : decode cX5_stepsUpTo 47 = .ok (.imul, 1) := by decide +kernel
theorem dX5_stepsUpTo_48 : decode cX5_stepsUpTo 48 = .ok (.iconst 1, 1) := by decide +kernel
theorem dX5_stepsUpTo_49 : decode cX5_stepsUpTo 49 = .ok (.iadd, 1) := by decide +kernel
theorem dX5_stepsUpTo_50 : decode cX5_stepsUpTo 50 = .ok (.invokevirtual 130, 3) := by decide +kernel
theorem dX5_stepsUpTo_53 : decode cX5_stepsUpTo 53 = .ok (.pop, 1) := by decide +kernel
theorem dX5_stepsUpTo_54 : decode cX5_stepsUpTo 54 = .ok (.aload_n 0, 1) := by decide +kernel
theorem dX5_stepsUpTo_55 : decode cX5_stepsUpTo 55 = .ok (.getfield 25, 3) := by decide +kernel
theorem dX5_stepsUpTo_58 : decode cX5_stepsUpTo 58 = .ok (.invokevirtual 105, 3) := by decide +kernel
theorem dX5_stepsUpTo_61 : decode cX5_stepsUpTo 61 = .ok (.ifCond .ne 7, 3) := by decide +kernel
theorem dX5_stepsUpTo_64 : decode cX5_stepsUpTo 64 = .ok (.aload_n 0, 1) := by decide +kernel
theorem dX5_stepsUpTo_65 : decode cX5_stepsUpTo 65 = .ok (.invokevirtual 143, 3) := by decide +kernel
theorem dX5_stepsUpTo_68 : decode cX5_stepsUpTo 68 = .ok (.iinc 2 1, 3) := by decide +kernel
theorem dX5_stepsUpTo_71 : decode cX5_stepsUpTo 71 = .ok (.goto (-69), 3) := by decide +kernel
theorem dX5_stepsUpTo_74 : decode cX5_stepsUpTo 74 = .ok (.iload_n 2, 1) := by decide +kernel
theorem dX5_stepsUpTo_75 : decode cX5_stepsUpTo 75 = .ok (.ireturn, 1) := by decide +kernel
set_option maxRecDepth 20000 in
theorem ggX5_endMove_X0_emptyHalf : GoodIn wsX5_endMove wsX0_emptyHalf := goodIn_r _ [9, 10, 11, 12, 8, 13, 14, 30, 31, 32, 33, 34] (by decide +kernel) (by decide +kernel)
set_option maxRecDepth 20000 in
theorem gX5_endMove_X0_emptyHalf : GoodIn wsX5_endMove (wsV RX5 152 RX0 yX0_emptyHalf wsX0_emptyHalf) := goodIn_app (goodIn_of _ (by decide +kernel)) ggX5_endMove_X0_emptyHalf
set_option maxRecDepth 20000 in
theorem ggX5_endMove_X0_sweepFloor : GoodIn wsX5_endMove wsX0_sweepFloor := goodIn_r _ [18, 19, 10, 11, 12, 8, 13, 14, 30, 31, 32, 33, 34] (by decide +kernel) (by decide +kernel)
set_option maxRecDepth 20000 in
theorem gX5_endMove_X0_sweepFloor : GoodIn wsX5_endMove (wsV RX5 156 RX0 yX0_sweepFloor wsX0_sweepFloor) := goodIn_app (goodIn_of _ (by decide +kernel)) ggX5_endMove_X0_sweepFloor
theorem dX5_endMove_0 : decode cX5_endMove 0 = .ok (.aload_n 0, 1) := by decide +kernel
theorem dX5_endMove_1 : decode cX5_endMove 1 = .ok (.getfield 18, 3) := by decide +kernel
theorem dX5_endMove_4 : decode cX5_endMove 4 = .ok (.iconst 1, 1) := by decide +kernel
theorem dX5_endMove_5 : decode cX5_endMove 5 = .ok (.aload_n 0, 1) := by decide +kernel
theorem dX5_endMove_6 : decode cX5_endMove 6 = .ok (.getfield 59, 3) := by decide +kernel
theorem dX5_endMove_9 : decode cX5_endMove 9 = .ok (.isub, 1) := by decide +kernel
theorem dX5_endMove_10 : decode cX5_endMove 10 = .ok (.invokevirtual 152, 3) := by decide +kernel
theorem dX5_endMove_13 : decode cX5_endMove 13 = .ok (.aload_n 0, 1) := by decide +kernel
theorem dX5_endMove_14 : decode cX5_endMove 14 = .ok (.getfield 18, 3) := by decide +kernel
theorem dX5_endMove_17 : decode cX5_endMove 17 = .ok (.invokevirtual 156, 3) := by decide +kernel
theorem dX5_endMove_20 : decode cX5_endMove 20 = .ok (.aload_n 0, 1) := by decide +kernel
theorem dX5_endMove_21 : decode cX5_endMove 21 = .ok (.iconst 0, 1) := by decide +kernel
theorem dX5_endMove_22 : decode cX5_endMove 22 = .ok (.putfield 55, 3) := by decide +kernel
theorem dX5_endMove_25 : decode cX5_endMove 25 = .ok (.aload_n 0, 1) := by decide +kernel
theorem dX5_endMove_26 : decode cX5_endMove 26 = .ok (.dup, 1) := by decide +kernel
theorem dX5_endMove_27 : decode cX5_endMove 27 = .ok (.getfield 68, 3) := by decide +kernel
theorem dX5_endMove_30 : decode cX5_endMove 30 = .ok (.iconst 1, 1) := by decide +kernel
theorem dX5_endMove_31 : decode cX5_endMove 31 = .ok (.iadd, 1) := by decide +kernel
theorem dX5_endMove_32 : decode cX5_endMove 32 = .ok (.putfield 68, 3) := by decide +kernel
theorem dX5_endMove_35 : decode cX5_endMove 35 = .ok (.return_, 1) := by decide +kernel
set_option maxRecDepth 20000 in
theorem ggX5_loseNote_X5_isThing : GoodIn wsX5_loseNote wsX5_isThing := goodIn_r _ [7, 8, 52, 53, 54, 55, 56, 57, 58, 59, 60, 61] (by decide +kernel) (by decide +kernel)
set_option maxRecDepth 20000 in
theorem gX5_loseNote_X5_isThing : GoodIn wsX5_loseNote (wsV RX5 159 RX5 yX5_isThing wsX5_isThing) := goodIn_app (goodIn_of _ (by decide +kernel)) ggX5_loseNote_X5_isThing
set_option maxRecDepth 20000 in
theorem ggX5_loseNote_X5_firstWithNote : GoodIn wsX5_loseNote wsX5_firstWithNote := goodIn_r _ [12, 1, 13, 14, 15, 16, 17, 18, 19, 20, 21, 22, 23, 24, 25, 26, 27, 28, 52, 53, 54, 55, 56, 57, 58, 59, 60, 61, 62, 63, 64, 65, 66] (by decide +kernel) (by decide +kernel)
set_option maxRecDepth 20000 in
theorem gX5_loseNote_X5_firstWithNote : GoodIn wsX5_loseNote (wsV RX5 162 RX5 yX5_firstWithNote wsX5_firstWithNote) := goodIn_app (goodIn_of _ (by decide +kernel)) ggX5_loseNote_X5_firstWithNote
set_option maxRecDepth 20000 in
theorem ggX5_loseNote_X5_freeInHalf : GoodIn wsX5_loseNote wsX5_freeInHalf := goodIn_r _ [32, 33, 52, 53, 54, 55, 56, 57, 58, 59, 60, 61] (by decide +kernel) (by decide +kernel)
set_option maxRecDepth 20000 in
theorem gX5_loseNote_X5_freeInHalf : GoodIn wsX5_loseNote (wsV RX5 99 RX5 yX5_freeInHalf wsX5_freeInHalf) := goodIn_app (goodIn_of _ (by decide +kernel)) ggX5_loseNote_X5_freeInHalf
set_option maxRecDepth 20000 in
theorem ggX5_loseNote_X5_roomKept : GoodIn wsX5_loseNote wsX5_roomKept := goodIn_r _ [37, 38, 39, 1, 40, 41, 42, 6, 43, 24, 25, 26, 16, 27, 28, 19, 20, 21, 22, 23, 44, 45, 46, 47, 52, 53, 54, 55, 56, 57, 58, 59, 60, 61, 62, 63, 64, 65, 66] (by decide +kernel) (by decide +kernel)
set_option maxRecDepth 20000 in
theorem gX5_loseNote_X5_roomKept : GoodIn wsX5_loseNote (wsV RX5 108 RX5 yX5_roomKept wsX5_roomKept) := goodIn_app (goodIn_of _ (by decide +kernel)) ggX5_loseNote_X5_roomKept
set_option maxRecDepth 20000 in
theorem ggX5_loseNote_X0_sizeAt : GoodIn wsX5_loseNote wsX0_sizeAt := goodIn_r _ [47, 23, 19, 20, 21, 16, 22, 62, 63, 64, 65, 66] (by decide +kernel) (by decide +kernel)
set_option maxRecDepth 20000 in
theorem gX5_loseNote_X0_sizeAt : GoodIn wsX5_loseNote (wsV RX5 82 RX0 yX0_sizeAt wsX0_sizeAt) := goodIn_app (goodIn_of _ (by decide +kernel)) ggX5_loseNote_X0_sizeAt
set_option maxRecDepth 20000 in
theorem ggX5_loseNote_X0_loseNoteAt : GoodIn wsX5_loseNote wsX0_loseNoteAt := goodIn_r _ [51, 28, 19, 20, 21, 16, 22, 23, 62, 63, 64, 65, 66] (by decide +kernel) (by decide +kernel)
set_option maxRecDepth 20000 in
theorem gX5_loseNote_X0_loseNoteAt : GoodIn wsX5_loseNote (wsV RX5 165 RX0 yX0_loseNoteAt wsX0_loseNoteAt) := goodIn_app (goodIn_of _ (by decide +kernel)) ggX5_loseNote_X0_loseNoteAt
theorem dX5_loseNote_0 : decode cX5_loseNote 0 = .ok (.aload_n 0, 1) := by decide +kernel
theorem dX5_loseNote_1 : decode cX5_loseNote 1 = .ok (.iload_n 1, 1) := by decide +kernel
theorem dX5_loseNote_2 : decode cX5_loseNote 2 = .ok (.invokevirtual 159, 3) := by decide +kernel
theorem dX5_loseNote_5 : decode cX5_loseNote 5 = .ok (.ifCond .ne 5, 3) := by decide +kernel
theorem dX5_loseNote_8 : decode cX5_loseNote 8 = .ok (.iconst (-1), 1) := by decide +kernel
theorem dX5_loseNote_9 : decode cX5_loseNote 9 = .ok (.ireturn, 1) := by decide +kernel
theorem dX5_loseNote_10 : decode cX5_loseNote 10 = .ok (.aload_n 0, 1) := by decide +kernel
theorem dX5_loseNote_11 : decode cX5_loseNote 11 = .ok (.iload_n 1, 1) := by decide +kernel
theorem dX5_loseNote_12 : decode cX5_loseNote 12 = .ok (.invokevirtual 162, 3) := by decide +kernel
theorem dX5_loseNote_15 : decode cX5_loseNote 15 = .ok (.istore_n 2, 1) := by decide +kernel
theorem dX5_loseNote_16 : decode cX5_loseNote 16 = .ok (.iload_n 2, 1) := by decide +kernel
theorem dX5_loseNote_17 : decode cX5_loseNote 17 = .ok (.sipush 300, 3) := by decide +kernel
theorem dX5_loseNote_20 : decode cX5_loseNote 20 = .ok (.if_icmp .ne 6, 3) := by decide +kernel
theorem dX5_loseNote_23 : decode cX5_loseNote 23 = .ok (.bipush (-2), 2) := by decide +kernel
theorem dX5_loseNote_25 : decode cX5_loseNote 25 = .ok (.ireturn, 1) := by decide +kernel
theorem dX5_loseNote_26 : decode cX5_loseNote 26 = .ok (.aload_n 0, 1) := by decide +kernel
theorem dX5_loseNote_27 : decode cX5_loseNote 27 = .ok (.invokevirtual 99, 3) := by decide +kernel
theorem dX5_loseNote_30 : decode cX5_loseNote 30 = .ok (.aload_n 0, 1) := by decide +kernel
theorem dX5_loseNote_31 : decode cX5_loseNote 31 = .ok (.invokevirtual 108, 3) := by decide +kernel
theorem dX5_loseNote_34 : decode cX5_loseNote 34 = .ok (.aload_n 0, 1) := by decide +kernel
theorem dX5_loseNote_35 : decode cX5_loseNote 35 = .ok (.getfield 18, 3) := by decide +kernel
theorem dX5_loseNote_38 : decode cX5_loseNote 38 = .ok (.iload_n 2, 1) := by decide +kernel
theorem dX5_loseNote_39 : decode cX5_loseNote 39 = .ok (.invokevirtual 82, 3) := by decide +kernel
theorem dX5_loseNote_42 : decode cX5_loseNote 42 = .ok (.iadd, 1) := by decide +kernel
theorem dX5_loseNote_43 : decode cX5_loseNote 43 = .ok (.if_icmp .ge 6, 3) := by decide +kernel
theorem dX5_loseNote_46 : decode cX5_loseNote 46 = .ok (.bipush (-3), 2) := by decide +kernel
theorem dX5_loseNote_48 : decode cX5_loseNote 48 = .ok (.ireturn, 1) := by decide +kernel
theorem dX5_loseNote_49 : decode cX5_loseNote 49 = .ok (.aload_n 0, 1) := by decide +kernel
theorem dX5_loseNote_50 : decode cX5_loseNote 50 = .ok (.getfield 18, 3) := by decide +kernel
theorem dX5_loseNote_53 : decode cX5_loseNote 53 = .ok (.iload_n 2, 1) := by decide +kernel
theorem dX5_loseNote_54 : decode cX5_loseNote 54 = .ok (.invokevirtual 165, 3) := by decide +kernel
theorem dX5_loseNote_57 : decode cX5_loseNote 57 = .ok (.aload_n 0, 1) := by decide +kernel
theorem dX5_loseNote_58 : decode cX5_loseNote 58 = .ok (.dup, 1) := by decide +kernel
theorem dX5_loseNote_59 : decode cX5_loseNote 59 = .ok (.getfield 65, 3) := by decide +kernel
theorem dX5_loseNote_62 : decode cX5_loseNote 62 = .ok (.iconst 1, 1) := by decide +kernel
theorem dX5_loseNote_63 : decode cX5_loseNote 63 = .ok (.iadd, 1) := by decide +kernel
theorem dX5_loseNote_64 : decode cX5_loseNote 64 = .ok (.putfield 65, 3) := by decide +kernel
theorem dX5_loseNote_67 : decode cX5_loseNote 67 = .ok (.iload_n 2, 1) := by decide +kernel
theorem dX5_loseNote_68 : decode cX5_loseNote 68 = .ok (.ireturn, 1) := by decide +kernel
set_option maxRecDepth 20000 in
theorem ggX5_firstWithNote_X0_isOf : GoodIn wsX5_firstWithNote wsX0_isOf := goodIn_r _ [6, 7, 8, 9, 10, 5, 11, 12, 28, 29, 30, 31, 32] (by decide +kernel) (by decide +kernel)
set_option maxRecDepth 20000 in
theorem gX5_firstWithNote_X0_isOf : GoodIn wsX5_firstWithNote (wsV RX5 85 RX0 yX0_isOf wsX0_isOf) := goodIn_app (goodIn_of _ (by decide +kernel)) ggX5_firstWithNote_X0_isOf
set_option maxRecDepth 20000 in
theorem ggX5_firstWithNote_X0_noteAt : GoodIn wsX5_firstWithNote wsX0_noteAt := goodIn_r _ [16, 17, 8, 9, 10, 5, 11, 12, 28, 29, 30, 31, 32] (by decide +kernel) (by decide +kernel)
set_option maxRecDepth 20000 in
theorem gX5_firstWithNote_X0_noteAt : GoodIn wsX5_firstWithNote (wsV RX5 79 RX0 yX0_noteAt wsX0_noteAt) := goodIn_app (goodIn_of _ (by decide +kernel)) ggX5_firstWithNote_X0_noteAt
theorem dX5_firstWithNote_0 : decode cX5_firstWithNote 0 = .ok (.iconst 0, 1) := by decide +kernel
theorem dX5_firstWithNote_1 : decode cX5_firstWithNote 1 = .ok (.istore_n 2, 1) := by decide +kernel
theorem dX5_firstWithNote_2 : decode cX5_firstWithNote 2 = .ok (.iload_n 2, 1) := by decide +kernel
theorem dX5_firstWithNote_3 : decode cX5_firstWithNote 3 = .ok (.sipush 260, 3) := by decide +kernel
theorem dX5_firstWithNote_6 : decode cX5_firstWithNote 6 = .ok (.if_icmp .ge 37, 3) := by decide +kernel
theorem dX5_firstWithNote_9 : decode cX5_firstWithNote 9 = .ok (.aload_n 0, 1) := by decide +kernel
theorem dX5_firstWithNote_10 : decode cX5_firstWithNote 10 = .ok (.getfield 18, 3) := by decide +kernel
theorem dX5_firstWithNote_13 : decode cX5_firstWithNote 13 = .ok (.iload_n 1, 1) := by decide +kernel
theorem dX5_firstWithNote_14 : decode cX5_firstWithNote 14 = .ok (.iload_n 2, 1) := by decide +kernel
theorem dX5_firstWithNote_15 : decode cX5_firstWithNote 15 = .ok (.invokevirtual 85, 3) := by decide +kernel
theorem dX5_firstWithNote_18 : decode cX5_firstWithNote 18 = .ok (.ifCond .eq 19, 3) := by decide +kernel
theorem dX5_firstWithNote_21 : decode cX5_firstWithNote 21 = .ok (.aload_n 0, 1) := by decide +kernel
theorem dX5_firstWithNote_22 : decode cX5_firstWithNote 22 = .ok (.getfield 18, 3) := by decide +kernel
theorem dX5_firstWithNote_25 : decode cX5_firstWithNote 25 = .ok (.iload_n 2, 1) := by decide +kernel
theorem dX5_firstWithNote_26 : decode cX5_firstWithNote 26 = .ok (.invokevirtual 79, 3) := by decide +kernel
theorem dX5_firstWithNote_29 : decode cX5_firstWithNote 29 = .ok (.sipush 300, 3) := by decide +kernel
theorem dX5_firstWithNote_32 : decode cX5_firstWithNote 32 = .ok (.if_icmp .eq 5, 3) := by decide +kernel
theorem dX5_firstWithNote_35 : decode cX5_firstWithNote 35 = .ok (.iload_n 2, 1) := by decide +kernel
theorem dX5_firstWithNote_36 : decode cX5_firstWithNote 36 = .ok (.ireturn, 1) := by decide +kernel
theorem dX5_firstWithNote_37 : decode cX5_firstWithNote 37 = .ok (.iinc 2 1, 3) := by decide +kernel
theorem dX5_firstWithNote_40 : decode cX5_firstWithNote 40 = .ok (.goto (-38), 3) := by decide +kernel
theorem dX5_firstWithNote_43 : decode cX5_firstWithNote 43 = .ok (.sipush 300, 3) := by decide +kernel
theorem dX5_firstWithNote_46 : decode cX5_firstWithNote 46 = .ok (.ireturn, 1) := by decide +kernel
set_option maxRecDepth 20000 in
theorem ggX5_mendTwins_X5_isThing : GoodIn wsX5_mendTwins wsX5_isThing := goodIn_r _ [7, 8, 52, 53, 54, 55, 56, 57, 58, 59, 60, 61] (by decide +kernel) (by decide +kernel)
set_option maxRecDepth 20000 in
theorem gX5_mendTwins_X5_isThing : GoodIn wsX5_mendTwins (wsV RX5 159 RX5 yX5_isThing wsX5_isThing) := goodIn_app (goodIn_of _ (by decide +kernel)) ggX5_mendTwins_X5_isThing
set_option maxRecDepth 20000 in
theorem ggX5_mendTwins_X5_hasTwins : GoodIn wsX5_mendTwins wsX5_hasTwins := goodIn_r _ [12, 2, 13, 14, 15, 16, 17, 18, 19, 20, 21, 22, 23, 24, 25, 26, 6, 27, 28, 1, 29, 30, 31, 32, 52, 53, 54, 55, 56, 57, 58, 59, 60, 61, 62, 63, 64, 65, 66] (by decide +kernel) (by decide +kernel)
set_option maxRecDepth 20000 in
theorem gX5_mendTwins_X5_hasTwins : GoodIn wsX5_mendTwins (wsV RX5 92 RX5 yX5_hasTwins wsX5_hasTwins) := goodIn_app (goodIn_of _ (by decide +kernel)) ggX5_mendTwins_X5_hasTwins
set_option maxRecDepth 20000 in
theorem ggX5_mendTwins_X0_addressOf : GoodIn wsX5_mendTwins wsX0_addressOf := goodIn_r _ [36, 37, 14, 15, 16, 17, 18, 19, 20, 21, 22, 23, 62, 63, 64, 65, 66] (by decide +kernel) (by decide +kernel)
set_option maxRecDepth 20000 in
theorem gX5_mendTwins_X0_addressOf : GoodIn wsX5_mendTwins (wsV RX5 168 RX0 yX0_addressOf wsX0_addressOf) := goodIn_app (goodIn_of _ (by decide +kernel)) ggX5_mendTwins_X0_addressOf
set_option maxRecDepth 20000 in
theorem ggX5_mendTwins_X0_isOf : GoodIn wsX5_mendTwins wsX0_isOf := goodIn_r _ [17, 18, 19, 20, 21, 16, 22, 23, 62, 63, 64, 65, 66] (by decide +kernel) (by decide +kernel)
set_option maxRecDepth 20000 in
theorem gX5_mendTwins_X0_isOf : GoodIn wsX5_mendTwins (wsV RX5 85 RX0 yX0_isOf wsX0_isOf) := goodIn_app (goodIn_of _ (by decide +kernel)) ggX5_mendTwins_X0_isOf
set_option maxRecDepth 20000 in
theorem ggX5_mendTwins_X0_remove : GoodIn wsX5_mendTwins wsX0_remove := goodIn_r _ [41, 23, 62, 63, 64, 65, 66] (by decide +kernel) (by decide +kernel)
set_option maxRecDepth 20000 in
theorem gX5_mendTwins_X0_remove : GoodIn wsX5_mendTwins (wsV RX5 172 RX0 yX0_remove wsX0_remove) := goodIn_app (goodIn_of _ (by decide +kernel)) ggX5_mendTwins_X0_remove
set_option maxRecDepth 20000 in
theorem ggX5_mendTwins_X0_replaceNames : GoodIn wsX5_mendTwins wsX0_replaceNames := goodIn_r _ [45, 46, 62, 63, 64, 65, 66] (by decide +kernel) (by decide +kernel)
set_option maxRecDepth 20000 in
theorem gX5_mendTwins_X0_replaceNames : GoodIn wsX5_mendTwins (wsV RX5 175 RX0 yX0_replaceNames wsX0_replaceNames) := goodIn_app (goodIn_of _ (by decide +kernel)) ggX5_mendTwins_X0_replaceNames
set_option maxRecDepth 20000 in
theorem ggX5_mendTwins_X5_replaceHooks : GoodIn wsX5_mendTwins wsX5_replaceHooks := goodIn_r _ [50, 51, 52, 53, 54, 55, 56, 57, 58, 59, 60, 61] (by decide +kernel) (by decide +kernel)
set_option maxRecDepth 20000 in
theorem gX5_mendTwins_X5_replaceHooks : GoodIn wsX5_mendTwins (wsV RX5 179 RX5 yX5_replaceHooks wsX5_replaceHooks) := goodIn_app (goodIn_of _ (by decide +kernel)) ggX5_mendTwins_X5_replaceHooks
theorem dX5_mendTwins_0 : decode cX5_mendTwins 0 = .ok (.aload_n 0, 1) := by decide +kernel
theorem dX5_mendTwins_1 : decode cX5_mendTwins 1 = .ok (.iload_n 1, 1) := by decide +kernel
theorem dX5_mendTwins_2 : decode cX5_mendTwins 2 = .ok (.invokevirtual 159, 3) := by decide +kernel
theorem dX5_mendTwins_5 : decode cX5_mendTwins 5 = .ok (.ifCond .ne 5, 3) := by decide +kernel
theorem dX5_mendTwins_8 : decode cX5_mendTwins 8 = .ok (.iconst (-1), 1) := by decide +kernel
theorem dX5_mendTwins_9 : decode cX5_mendTwins 9 = .ok (.ireturn, 1) := by decide +kernel
theorem dX5_mendTwins_10 : decode cX5_mendTwins 10 = .ok (.aload_n 0, 1) := by decide +kernel
theorem dX5_mendTwins_11 : decode cX5_mendTwins 11 = .ok (.getfield 55, 3) := by decide +kernel
theorem dX5_mendTwins_14 : decode cX5_mendTwins 14 = .ok (.ifCond .ne 11, 3) := by decide +kernel
theorem dX5_mendTwins_17 : decode cX5_mendTwins 17 = .ok (.aload_n 0, 1) := by decide +kernel
theorem dX5_mendTwins_18 : decode cX5_mendTwins 18 = .ok (.iload_n 1, 1) := by decide +kernel
theorem dX5_mendTwins_19 : decode cX5_mendTwins 19 = .ok (.invokevirtual 92, 3) := by decide +kernel
theorem dX5_mendTwins_22 : decode cX5_mendTwins 22 = .ok (.ifCond .ne 6, 3) := by decide +kernel
theorem dX5_mendTwins_25 : decode cX5_mendTwins 25 = .ok (.bipush (-2), 2) := by decide +kernel
theorem dX5_mendTwins_27 : decode cX5_mendTwins 27 = .ok (.ireturn, 1) := by decide +kernel
theorem dX5_mendTwins_28 : decode cX5_mendTwins 28 = .ok (.aload_n 0, 1) := by decide +kernel
theorem dX5_mendTwins_29 : decode cX5_mendTwins 29 = .ok (.getfield 18, 3) := by decide +kernel
theorem dX5_mendTwins_32 : decode cX5_mendTwins 32 = .ok (.iload_n 1, 1) := by decide +kernel
theorem dX5_mendTwins_33 : decode cX5_mendTwins 33 = .ok (.iconst 0, 1) := by decide +kernel
theorem dX5_mendTwins_34 : decode cX5_mendTwins 34 = .ok (.invokevirtual 168, 3) := by decide +kernel
theorem dX5_mendTwins_37 : decode cX5_mendTwins 37 = .ok (.istore_n 2, 1) := by decide +kernel
theorem dX5_mendTwins_38 : decode cX5_mendTwins 38 = .ok (.iconst 0, 1) := by decide +kernel
theorem dX5_mendTwins_39 : decode cX5_mendTwins 39 = .ok (.istore_n 3, 1) := by decide +kernel
theorem dX5_mendTwins_40 : decode cX5_mendTwins 40 = .ok (.iload_n 2, 1) := by decide +kernel
theorem dX5_mendTwins_41 : decode cX5_mendTwins 41 = .ok (.iconst 1, 1) := by decide +kernel
theorem dX5_mendTwins_42 : decode cX5_mendTwins 42 = .ok (.iadd, 1) := by decide +kernel
theorem dX5_mendTwins_43 : decode cX5_mendTwins 43 = .ok (.istore 4, 2) := by decide +kernel
theorem dX5_mendTwins_45 : decode cX5_mendTwins 45 = .ok (.iload 4, 2) := by decide +kernel
theorem dX5_mendTwins_47 : decode cX5_mendTwins 47 = .ok (.sipush 260, 3) := by decide +kernel
theorem dX5_mendTwins_50 : decode cX5_mendTwins 50 = .ok (.if_icmp .ge 51, 3) := by decide +kernel
theorem dX5_mendTwins_53 : decode cX5_mendTwins 53 = .ok (.aload_n 0, 1) := by decide +kernel
theorem dX5_mendTwins_54 : decode cX5_mendTwins 54 = .ok (.getfield 18, 3) := by decide +kernel
theorem dX5_mendTwins_57 : decode cX5_mendTwins 57 = .ok (.iload_n 1, 1) := by decide +kernel
theorem dX5_mendTwins_58 : decode cX5_mendTwins 58 = .ok (.iload 4, 2) := by decide +kernel
theorem dX5_mendTwins_60 : decode cX5_mendTwins 60 = .ok (.invokevirtual 85, 3) := by decide +kernel
theorem dX5_mendTwins_63 : decode cX5_mendTwins 63 = .ok (.ifCond .eq 32, 3) := by decide +kernel
theorem dX5_mendTwins_66 : decode cX5_mendTwins 66 = .ok (.aload_n 0, 1) := by decide +kernel
theorem dX5_mendTwins_67 : decode cX5_mendTwins 67 = .ok (.getfield 18, 3) := by decide +kernel
theorem dX5_mendTwins_70 : decode cX5_mendTwins 70 = .ok (.iload 4, 2) := by decide +kernel
theorem dX5_mendTwins_72 : decode cX5_mendTwins 72 = .ok (.invokevirtual 172, 3) := by decide +kernel
theorem dX5_mendTwins_75 : decode cX5_mendTwins 75 = .ok (.aload_n 0, 1) := by decide +kernel
theorem dX5_mendTwins_76 : decode cX5_mendTwins 76 = .ok (.getfield 18, 3) := by decide +kernel
theorem dX5_mendTwins_79 : decode cX5_mendTwins 79 = .ok (.iload 4, 2) := by decide +kernel
theorem dX5_mendTwins_81 : decode cX5_mendTwins 81 = .ok (.iload_n 2, 1) := by decide +kernel
theorem dX5_mendTwins_82 : decode cX5_mendTwins 82 = .ok (.invokevirtual 175, 3) := by decide +kernel
theorem dX5_mendTwins_85 : decode cX5_mendTwins 85 = .ok (.aload_n 0, 1) := by decide +kernel
theorem dX5_mendTwins_86 : decode cX5_mendTwins 86 = .ok (.iload 4, 2) := by decide +kernel
theorem dX5_mendTwins_88 : decode cX5_mendTwins 88 = .ok (.iload_n 2, 1) := by decide +kernel
theorem dX5_mendTwins_89 : decode cX5_mendTwins 89 = .ok (.invokevirtual 179, 3) := by decide +kernel
theorem dX5_mendTwins_92 : decode cX5_mendTwins 92 = .ok (.iinc 3 1, 3) := by decide +kernel
theorem dX5_mendTwins_95 : decode cX5_mendTwins 95 = .ok (.iinc 4 1, 3) := by decide +kernel
theorem dX5_mendTwins_98 : decode cX5_mendTwins 98 = .ok (.goto (-53), 3) := by decide +kernel
theorem dX5_mendTwins_101 : decode cX5_mendTwins 101 = .ok (.iload_n 3, 1) := by decide +kernel
theorem dX5_mendTwins_102 : decode cX5_mendTwins 102 = .ok (.ireturn, 1) := by decide +kernel
theorem dX5_replaceHooks_0 : decode cX5_replaceHooks 0 = .ok (.iconst 0, 1) := by decide +kernel
theorem dX5_replaceHooks_1 : decode cX5_replaceHooks 1 = .ok (.istore_n 3, 1) := by decide +kernel
theorem dX5_replaceHooks_2 : decode cX5_replaceHooks 2 = .ok (.iload_n 3, 1) := by decide +kernel
theorem dX5_replaceHooks_3 : decode cX5_replaceHooks 3 = .ok (.bipush 8, 2) := by decide +kernel
theorem dX5_replaceHooks_5 : decode cX5_replaceHooks 5 = .ok (.if_icmp .ge 26, 3) := by decide +kernel
theorem dX5_replaceHooks_8 : decode cX5_replaceHooks 8 = .ok (.aload_n 0, 1) := by decide +kernel
theorem dX5_replaceHooks_9 : decode cX5_replaceHooks 9 = .ok (.getfield 9, 3) := by decide +kernel
theorem dX5_replaceHooks_12 : decode cX5_replaceHooks 12 = .ok (.iload_n 3, 1) := by decide +kernel
theorem dX5_replaceHooks_13 : decode cX5_replaceHooks 13 = .ok (.iaload, 1) := by decide +kernel
theorem dX5_replaceHooks_14 : decode cX5_replaceHooks 14 = .ok (.iload_n 1, 1) := by decide +kernel
theorem dX5_replaceHooks_15 : decode cX5_replaceHooks 15 = .ok (.if_icmp .ne 10, 3) := by decide +kernel
theorem dX5_replaceHooks_18 : decode cX5_replaceHooks 18 = .ok (.aload_n 0, 1) := by decide +kernel
theorem dX5_replaceHooks_19 : decode cX5_replaceHooks 19 = .ok (.getfield 9, 3) := by decide +kernel
theorem dX5_replaceHooks_22 : decode cX5_replaceHooks 22 = .ok (.iload_n 3, 1) := by decide +kernel
theorem dX5_replaceHooks_23 : decode cX5_replaceHooks 23 = .ok (.iload_n 2, 1) := by decide +kernel
theorem dX5_replaceHooks_24 : decode cX5_replaceHooks 24 = .ok (.iastore, 1) := by decide +kernel
theorem dX5_replaceHooks_25 : decode cX5_replaceHooks 25 = .ok (.iinc 3 1, 3) := by decide +kernel
theorem dX5_replaceHooks_28 : decode cX5_replaceHooks 28 = .ok (.goto (-26), 3) := by decide +kernel
theorem dX5_replaceHooks_31 : decode cX5_replaceHooks 31 = .ok (.return_, 1) := by decide +kernel
set_option maxRecDepth 20000 in
theorem ggX5_readIn_X5_isInOldHalf : GoodIn wsX5_readIn wsX5_isInOldHalf := goodIn_r _ [8, 9, 2, 10, 11, 12, 7, 13, 56, 57, 58, 59, 60, 61, 62, 63, 64, 65] (by decide +kernel) (by decide +kernel)
set_option maxRecDepth 20000 in
theorem gX5_readIn_X5_isInOldHalf : GoodIn wsX5_readIn (wsV RX5 89 RX5 yX5_isInOldHalf wsX5_isInOldHalf) := goodIn_app (goodIn_of _ (by decide +kernel)) ggX5_readIn_X5_isInOldHalf
set_option maxRecDepth 20000 in
theorem ggX5_readIn_X0_noteAt : GoodIn wsX5_readIn wsX0_noteAt := goodIn_r _ [18, 19, 20, 21, 22, 17, 23, 24, 66, 67, 68, 69, 70] (by decide +kernel) (by decide +kernel)
set_option maxRecDepth 20000 in
theorem gX5_readIn_X0_noteAt : GoodIn wsX5_readIn (wsV RX5 79 RX0 yX0_noteAt wsX0_noteAt) := goodIn_app (goodIn_of _ (by decide +kernel)) ggX5_readIn_X0_noteAt
set_option maxRecDepth 20000 in
theorem ggX5_readIn_X0_sizeAt : GoodIn wsX5_readIn wsX0_sizeAt := goodIn_r _ [28, 24, 20, 21, 22, 17, 23, 66, 67, 68, 69, 70] (by decide +kernel) (by decide +kernel)
set_option maxRecDepth 20000 in
theorem gX5_readIn_X0_sizeAt : GoodIn wsX5_readIn (wsV RX5 82 RX0 yX0_sizeAt wsX0_sizeAt) := goodIn_app (goodIn_of _ (by decide +kernel)) ggX5_readIn_X0_sizeAt
set_option maxRecDepth 20000 in
theorem ggX5_readIn_X5_carryOver : GoodIn wsX5_readIn wsX5_carryOver := goodIn_r _ [32, 9, 33, 1, 3, 34, 35, 36, 7, 37, 10, 11, 12, 13, 38, 39, 40, 17, 41, 42, 24, 19, 43, 44, 45, 46, 47, 48, 49, 50, 51, 56, 57, 58, 59, 60, 61, 62, 63, 64, 65, 66, 67, 68, 69, 70, 71, 72, 73] (by decide +kernel) (by decide +kernel)
set_option maxRecDepth 20000 in
theorem gX5_readIn_X5_carryOver : GoodIn wsX5_readIn (wsV RX5 182 RX5 yX5_carryOver wsX5_carryOver) := goodIn_app (goodIn_of _ (by decide +kernel)) ggX5_readIn_X5_carryOver
set_option maxRecDepth 20000 in
theorem ggX5_readIn_X0_mark : GoodIn wsX5_readIn wsX0_mark := goodIn_r _ [55, 43, 20, 21, 22, 17, 23, 24, 66, 67, 68, 69, 70] (by decide +kernel) (by decide +kernel)
set_option maxRecDepth 20000 in
theorem gX5_readIn_X0_mark : GoodIn wsX5_readIn (wsV RX5 124 RX0 yX0_mark wsX0_mark) := goodIn_app (goodIn_of _ (by decide +kernel)) ggX5_readIn_X0_mark
set_option maxRecDepth 20000 in
theorem ggX5_readIn_X3_join : GoodIn wsX5_readIn wsX3_join := goodIn_r _ [49, 50, 51, 71, 72, 73] (by decide +kernel) (by decide +kernel)
set_option maxRecDepth 20000 in
theorem gX5_readIn_X3_join : GoodIn wsX5_readIn (wsV RX5 185 RX3 yX3_join wsX3_join) := goodIn_app (goodIn_of _ (by decide +kernel)) ggX5_readIn_X3_join
theorem dX5_readIn_0 : decode cX5_readIn 0 = .ok (.aload_n 1, 1) := by decide +kernel
theorem dX5_readIn_1 : decode cX5_readIn 1 = .ok (.ifnull 13, 3) := by decide +kernel
theorem dX5_readIn_4 : decode cX5_readIn 4 = .ok (.iload_n 2, 1) := by decide +kernel
theorem dX5_readIn_5 : decode cX5_readIn 5 = .ok (.ifCond .lt 9, 3) := by decide +kernel
theorem dX5_readIn_8 : decode cX5_readIn 8 = .ok (.iload_n 2, 1) := by decide +kernel
theorem dX5_readIn_9 : decode cX5_readIn 9 = .ok (.aload_n 1, 1) := by decide +kernel
theorem dX5_readIn_10 : decode cX5_readIn 10 = .ok (.arraylength, 1) := by decide +kernel
theorem dX5_readIn_11 : decode cX5_readIn 11 = .ok (.if_icmp .lt 7, 3) := by decide +kernel
theorem dX5_readIn_14 : decode cX5_readIn 14 = .ok (.sipush 300, 3) := by decide +kernel
theorem dX5_readIn_17 : decode cX5_readIn 17 = .ok (.ireturn, 1) := by decide +kernel
theorem dX5_readIn_18 : decode cX5_readIn 18 = .ok (.aload_n 1, 1) := by decide +kernel
theorem dX5_readIn_19 : decode cX5_readIn 19 = .ok (.iload_n 2, 1) := by decide +kernel
theorem dX5_readIn_20 : decode cX5_readIn 20 = .ok (.iaload, 1) := by decide +kernel
theorem dX5_readIn_21 : decode cX5_readIn 21 = .ok (.istore_n 3, 1) := by decide +kernel
theorem dX5_readIn_22 : decode cX5_readIn 22 = .ok (.aload_n 0, 1) := by decide +kernel
theorem dX5_readIn_23 : decode cX5_readIn 23 = .ok (.iload_n 3, 1) := by decide +kernel
theorem dX5_readIn_24 : decode cX5_readIn 24 = .ok (.invokevirtual 89, 3) := by decide +kernel
theorem dX5_readIn_27 : decode cX5_readIn 27 = .ok (.ifCond .eq 45, 3) := by decide +kernel
theorem dX5_readIn_30 : decode cX5_readIn 30 = .ok (.aload_n 0, 1) := by decide +kernel
theorem dX5_readIn_31 : decode cX5_readIn 31 = .ok (.getfield 18, 3) := by decide +kernel
theorem dX5_readIn_34 : decode cX5_readIn 34 = .ok (.iload_n 3, 1) := by decide +kernel
theorem dX5_readIn_35 : decode cX5_readIn 35 = .ok (.invokevirtual 79, 3) := by decide +kernel
theorem dX5_readIn_38 : decode cX5_readIn 38 = .ok (.istore 4, 2) := by decide +kernel
theorem dX5_readIn_40 : decode cX5_readIn 40 = .ok (.aload_n 1, 1) := by decide +kernel
theorem dX5_readIn_41 : decode cX5_readIn 41 = .ok (.iload_n 2, 1) := by decide +kernel
theorem dX5_readIn_42 : decode cX5_readIn 42 = .ok (.iload 4, 2) := by decide +kernel
theorem dX5_readIn_44 : decode cX5_readIn 44 = .ok (.sipush 300, 3) := by decide +kernel
theorem dX5_readIn_47 : decode cX5_readIn 47 = .ok (.if_icmp .eq 8, 3) := by decide +kernel
theorem dX5_readIn_50 : decode cX5_readIn 50 = .ok (.iload 4, 2) := by decide +kernel
theorem dX5_readIn_52 : decode cX5_readIn 52 = .ok (.goto 16, 3) := by decide +kernel
theorem dX5_readIn_55 : decode cX5_readIn 55 = .ok (.aload_n 0, 1) := by decide +kernel
theorem dX5_readIn_56 : decode cX5_readIn 56 = .ok (.iload_n 3, 1) := by decide +kernel
theorem dX5_readIn_57 : decode cX5_readIn 57 = .ok (.aload_n 0, 1) := by decide +kernel
theorem dX5_readIn_58 : decode cX5_readIn 58 = .ok (.getfield 18, 3) := by decide +kernel
theorem dX5_readIn_61 : decode cX5_readIn 61 = .ok (.iload_n 3, 1) := by decide +kernel
theorem dX5_readIn_62 : decode cX5_readIn 62 = .ok (.invokevirtual 82, 3) := by decide +kernel
theorem dX5_readIn_65 : decode cX5_readIn 65 = .ok (.invokevirtual 182, 3) := by decide +kernel
theorem dX5_readIn_68 : decode cX5_readIn 68 = .ok (.iastore, 1) := by decide +kernel
theorem dX5_readIn_69 : decode cX5_readIn 69 = .ok (.goto 36, 3) := by decide +kernel
theorem dX5_readIn_72 : decode cX5_readIn 72 = .ok (.aload_n 0, 1) := by decide +kernel
theorem dX5_readIn_73 : decode cX5_readIn 73 = .ok (.getfield 55, 3) := by decide +kernel
theorem dX5_readIn_76 : decode cX5_readIn 76 = .ok (.ifCond .eq 29, 3) := by decide +kernel
theorem dX5_readIn_79 : decode cX5_readIn 79 = .ok (.iload_n 3, 1) := by decide +kernel
theorem dX5_readIn_80 : decode cX5_readIn 80 = .ok (.sipush 200, 3) := by decide +kernel
theorem dX5_readIn_83 : decode cX5_readIn 83 = .ok (.if_icmp .lt 22, 3) := by decide +kernel
theorem dX5_readIn_86 : decode cX5_readIn 86 = .ok (.aload_n 0, 1) := by decide +kernel
theorem dX5_readIn_87 : decode cX5_readIn 87 = .ok (.getfield 18, 3) := by decide +kernel
theorem dX5_readIn_90 : decode cX5_readIn 90 = .ok (.iload_n 3, 1) := by decide +kernel
theorem dX5_readIn_91 : decode cX5_readIn 91 = .ok (.invokevirtual 124, 3) := by decide +kernel
theorem dX5_readIn_94 : decode cX5_readIn 94 = .ok (.ifCond .eq 11, 3) := by decide +kernel
theorem dX5_readIn_97 : decode cX5_readIn 97 = .ok (.aload_n 0, 1) := by decide +kernel
theorem dX5_readIn_98 : decode cX5_readIn 98 = .ok (.getfield 25, 3) := by decide +kernel
theorem dX5_readIn_101 : decode cX5_readIn 101 = .ok (.iload_n 3, 1) := by decide +kernel
theorem dX5_readIn_102 : decode cX5_readIn 102 = .ok (.invokevirtual 185, 3) := by decide +kernel
theorem dX5_readIn_105 : decode cX5_readIn 105 = .ok (.aload_n 1, 1) := by decide +kernel
theorem dX5_readIn_106 : decode cX5_readIn 106 = .ok (.iload_n 2, 1) := by decide +kernel
theorem dX5_readIn_107 : decode cX5_readIn 107 = .ok (.iaload, 1) := by decide +kernel
theorem dX5_readIn_108 : decode cX5_readIn 108 = .ok (.ireturn, 1) := by decide +kernel
set_option maxRecDepth 20000 in
theorem ggX5_carryOver_X5_freeInHalf : GoodIn wsX5_carryOver wsX5_freeInHalf := goodIn_r _ [9, 2, 31, 32, 33, 34, 35, 36, 37, 38, 39, 40] (by decide +kernel) (by decide +kernel)
set_option maxRecDepth 20000 in
theorem gX5_carryOver_X5_freeInHalf : GoodIn wsX5_carryOver (wsV RX5 99 RX5 yX5_freeInHalf wsX5_freeInHalf) := goodIn_app (goodIn_of _ (by decide +kernel)) ggX5_carryOver_X5_freeInHalf
set_option maxRecDepth 20000 in
theorem ggX5_carryOver_X5_addressOfHalf : GoodIn wsX5_carryOver wsX5_addressOfHalf := goodIn_r _ [13] (by decide +kernel) (by decide +kernel)
set_option maxRecDepth 20000 in
theorem gX5_carryOver_X5_addressOfHalf : GoodIn wsX5_carryOver (wsV RX5 75 RX5 yX5_addressOfHalf wsX5_addressOfHalf) := goodIn_app (goodIn_of _ (by decide +kernel)) ggX5_carryOver_X5_addressOfHalf
set_option maxRecDepth 20000 in
theorem ggX5_carryOver_X0_layAgain : GoodIn wsX5_carryOver wsX0_layAgain := goodIn_r _ [18, 19, 20, 21, 22, 23, 41, 42, 43, 44, 45] (by decide +kernel) (by decide +kernel)
set_option maxRecDepth 20000 in
theorem gX5_carryOver_X0_layAgain : GoodIn wsX5_carryOver (wsV RX5 188 RX0 yX0_layAgain wsX0_layAgain) := goodIn_app (goodIn_of _ (by decide +kernel)) ggX5_carryOver_X0_layAgain
set_option maxRecDepth 20000 in
theorem ggX5_carryOver_X3_join : GoodIn wsX5_carryOver wsX3_join := goodIn_r _ [28, 29, 30, 46, 47, 48] (by decide +kernel) (by decide +kernel)
set_option maxRecDepth 20000 in
theorem gX5_carryOver_X3_join : GoodIn wsX5_carryOver (wsV RX5 185 RX3 yX3_join wsX3_join) := goodIn_app (goodIn_of _ (by decide +kernel)) ggX5_carryOver_X3_join
theorem dX5_carryOver_0 : decode cX5_carryOver 0 = .ok (.iload_n 2, 1) := by decide +kernel
theorem dX5_carryOver_1 : decode cX5_carryOver 1 = .ok (.ifCond .eq 11, 3) := by decide +kernel
theorem dX5_carryOver_4 : decode cX5_carryOver 4 = .ok (.iload_n 2, 1) := by decide +kernel
theorem dX5_carryOver_5 : decode cX5_carryOver 5 = .ok (.aload_n 0, 1) := by decide +kernel
theorem dX5_carryOver_6 : decode cX5_carryOver 6 = .ok (.invokevirtual 99, 3) := by decide +kernel
theorem dX5_carryOver_9 : decode cX5_carryOver 9 = .ok (.if_icmp .le 5, 3) := by decide +kernel
theorem dX5_carryOver_12 : decode cX5_carryOver 12 = .ok (.iload_n 1, 1) := by decide +kernel
theorem dX5_carryOver_13 : decode cX5_carryOver 13 = .ok (.ireturn, 1) := by decide +kernel
theorem dX5_carryOver_14 : decode cX5_carryOver 14 = .ok (.aload_n 0, 1) := by decide +kernel
theorem dX5_carryOver_15 : decode cX5_carryOver 15 = .ok (.aload_n 0, 1) := by decide +kernel
theorem dX5_carryOver_16 : decode cX5_carryOver 16 = .ok (.getfield 59, 3) := by decide +kernel
theorem dX5_carryOver_19 : decode cX5_carryOver 19 = .ok (.invokevirtual 75, 3) := by decide +kernel
theorem dX5_carryOver_22 : decode cX5_carryOver 22 = .ok (.aload_n 0, 1) := by decide +kernel
theorem dX5_carryOver_23 : decode cX5_carryOver 23 = .ok (.getfield 62, 3) := by decide +kernel
theorem dX5_carryOver_26 : decode cX5_carryOver 26 = .ok (.iadd, 1) := by decide +kernel
theorem dX5_carryOver_27 : decode cX5_carryOver 27 = .ok (.istore_n 3, 1) := by decide +kernel
theorem dX5_carryOver_28 : decode cX5_carryOver 28 = .ok (.aload_n 0, 1) := by decide +kernel
theorem dX5_carryOver_29 : decode cX5_carryOver 29 = .ok (.getfield 18, 3) := by decide +kernel
theorem dX5_carryOver_32 : decode cX5_carryOver 32 = .ok (.iload_n 1, 1) := by decide +kernel
theorem dX5_carryOver_33 : decode cX5_carryOver 33 = .ok (.iload_n 3, 1) := by decide +kernel
theorem dX5_carryOver_34 : decode cX5_carryOver 34 = .ok (.invokevirtual 188, 3) := by decide +kernel
theorem dX5_carryOver_37 : decode cX5_carryOver 37 = .ok (.aload_n 0, 1) := by decide +kernel
theorem dX5_carryOver_38 : decode cX5_carryOver 38 = .ok (.dup, 1) := by decide +kernel
theorem dX5_carryOver_39 : decode cX5_carryOver 39 = .ok (.getfield 62, 3) := by decide +kernel
theorem dX5_carryOver_42 : decode cX5_carryOver 42 = .ok (.iload_n 2, 1) := by decide +kernel
theorem dX5_carryOver_43 : decode cX5_carryOver 43 = .ok (.iadd, 1) := by decide +kernel
theorem dX5_carryOver_44 : decode cX5_carryOver 44 = .ok (.putfield 62, 3) := by decide +kernel
theorem dX5_carryOver_47 : decode cX5_carryOver 47 = .ok (.aload_n 0, 1) := by decide +kernel
theorem dX5_carryOver_48 : decode cX5_carryOver 48 = .ok (.getfield 25, 3) := by decide +kernel
theorem dX5_carryOver_51 : decode cX5_carryOver 51 = .ok (.iload_n 3, 1) := by decide +kernel
theorem dX5_carryOver_52 : decode cX5_carryOver 52 = .ok (.invokevirtual 185, 3) := by decide +kernel
theorem dX5_carryOver_55 : decode cX5_carryOver 55 = .ok (.iload_n 3, 1) := by decide +kernel
theorem dX5_carryOver_56 : decode cX5_carryOver 56 = .ok (.ireturn, 1) := by decide +kernel
theorem dX6_init_0 : decode cX6_init 0 = .ok (.aload_n 0, 1) := by decide +kernel
theorem dX6_init_1 : decode cX6_init 1 = .ok (.invokespecial 3, 3) := by decide +kernel
theorem dX6_init_4 : decode cX6_init 4 = .ok (.aload_n 0, 1) := by decide +kernel
theorem dX6_init_5 : decode cX6_init 5 = .ok (.bipush 80, 2) := by decide +kernel
theorem dX6_init_7 : decode cX6_init 7 = .ok (.newarray .int, 2) := by decide +kernel
theorem dX6_init_9 : decode cX6_init 9 = .ok (.putfield 9, 3) := by decide +kernel
theorem dX6_init_12 : decode cX6_init 12 = .ok (.return_, 1) := by decide +kernel
theorem dX6_size_0 : decode cX6_size 0 = .ok (.aload_n 0, 1) := by decide +kernel
theorem dX6_size_1 : decode cX6_size 1 = .ok (.getfield 15, 3) := by decide +kernel
theorem dX6_size_4 : decode cX6_size 4 = .ok (.ireturn, 1) := by decide +kernel
set_option maxRecDepth 20000 in
theorem ggX7_init_X5_init : GoodIn wsX7_init wsX5_init := goodIn_r _ [27, 28, 2, 3, 29, 30, 31, 32, 33, 34, 35, 36, 37, 38, 39, 40, 41, 42, 43, 44, 45, 46, 47, 48, 49, 50, 51, 52, 53, 54, 55, 56, 57, 80, 81, 82, 83, 84, 85, 86, 87, 88, 89, 108, 109, 110, 111, 112, 113, 114, 115] (by decide +kernel) (by decide +kernel)
set_option maxRecDepth 20000 in
theorem gX7_init_X5_init : GoodIn wsX7_init (wsX5_init) := ggX7_init_X5_init
set_option maxRecDepth 20000 in
theorem ggX7_init_X2_init : GoodIn wsX7_init wsX2_init := goodIn_r _ [60, 61, 2, 3, 62, 63, 5, 6, 64, 26, 27, 28, 29, 30, 31, 32, 33, 34, 35, 36, 37, 38, 39, 40, 41, 42, 43, 44, 45, 46, 47, 48, 49, 50, 51, 52, 53, 54, 55, 56, 57, 96, 97, 98, 80, 81, 82, 83, 84, 85, 86, 87, 88, 89, 108, 109, 110, 111, 112, 113, 114, 115] (by decide +kernel) (by decide +kernel)
set_option maxRecDepth 20000 in
theorem gX7_init_X2_init : GoodIn wsX7_init (wsX2_init) := ggX7_init_X2_init
set_option maxRecDepth 20000 in
theorem ggX7_init_X4_init : GoodIn wsX7_init wsX4_init := goodIn_r _ [66, 67, 2, 3, 68, 69, 29, 70, 71, 99, 100, 101, 102] (by decide +kernel) (by decide +kernel)
set_option maxRecDepth 20000 in
theorem gX7_init_X4_init_n28 : GoodIn wsX7_init (wsX4_init) := ggX7_init_X4_init
set_option maxRecDepth 20000 in
theorem ggX7_init_X6_init : GoodIn wsX7_init wsX6_init := goodIn_r _ [73, 74, 2, 3, 29, 75, 103, 104] (by decide +kernel) (by decide +kernel)
set_option maxRecDepth 20000 in
theorem gX7_init_X6_init_n35 : GoodIn wsX7_init (wsX6_init) := ggX7_init_X6_init
set_option maxRecDepth 20000 in
theorem ggX7_init_X1_init : GoodIn wsX7_init wsX1_init := goodIn_r _ [77, 78, 2, 3, 29, 79, 105, 106, 107] (by decide +kernel) (by decide +kernel)
set_option maxRecDepth 20000 in
theorem gX7_init_X1_init_n42 : GoodIn wsX7_init (wsX1_init) := ggX7_init_X1_init
theorem dX7_init_0 : decode cX7_init 0 = .ok (.aload_n 0, 1) := by decide +kernel
theorem dX7_init_1 : decode cX7_init 1 = .ok (.invokespecial 3, 3) := by decide +kernel
theorem dX7_init_4 : decode cX7_init 4 = .ok (.aload_n 0, 1) := by decide +kernel
theorem dX7_init_5 : decode cX7_init 5 = .ok (.new 9, 3) := by decide +kernel
theorem dX7_init_8 : decode cX7_init 8 = .ok (.dup, 1) := by decide +kernel
theorem dX7_init_9 : decode cX7_init 9 = .ok (.invokespecial 11, 3) := by decide +kernel
theorem dX7_init_12 : decode cX7_init 12 = .ok (.putfield 12, 3) := by decide +kernel
theorem dX7_init_15 : decode cX7_init 15 = .ok (.aload_n 0, 1) := by decide +kernel
theorem dX7_init_16 : decode cX7_init 16 = .ok (.new 9, 3) := by decide +kernel
theorem dX7_init_19 : decode cX7_init 19 = .ok (.dup, 1) := by decide +kernel
theorem dX7_init_20 : decode cX7_init 20 = .ok (.invokespecial 11, 3) := by decide +kernel
theorem dX7_init_23 : decode cX7_init 23 = .ok (.putfield 16, 3) := by decide +kernel
theorem dX7_init_26 : decode cX7_init 26 = .ok (.aload_n 0, 1) := by decide +kernel
theorem dX7_init_27 : decode cX7_init 27 = .ok (.new 19, 3) := by decide +kernel
theorem dX7_init_30 : decode cX7_init 30 = .ok (.dup, 1) := by decide +kernel
theorem dX7_init_31 : decode cX7_init 31 = .ok (.invokespecial 21, 3) := by decide +kernel
theorem dX7_init_34 : decode cX7_init 34 = .ok (.putfield 22, 3) := by decide +kernel
theorem dX7_init_37 : decode cX7_init 37 = .ok (.aload_n 0, 1) := by decide +kernel
theorem dX7_init_38 : decode cX7_init 38 = .ok (.new 26, 3) := by decide +kernel
theorem dX7_init_41 : decode cX7_init 41 = .ok (.dup, 1) := by decide +kernel
theorem dX7_init_42 : decode cX7_init 42 = .ok (.invokespecial 28, 3) := by decide +kernel
theorem dX7_init_45 : decode cX7_init 45 = .ok (.putfield 29, 3) := by decide +kernel
theorem dX7_init_48 : decode cX7_init 48 = .ok (.aload_n 0, 1) := by decide +kernel
theorem dX7_init_49 : decode cX7_init 49 = .ok (.new 33, 3) := by decide +kernel
theorem dX7_init_52 : decode cX7_init 52 = .ok (.dup, 1) := by decide +kernel
theorem dX7_init_53 : decode cX7_init 53 = .ok (.invokespecial 35, 3) := by decide +kernel
theorem dX7_init_56 : decode cX7_init 56 = .ok (.putfield 36, 3) := by decide +kernel
theorem dX7_init_59 : decode cX7_init 59 = .ok (.aload_n 0, 1) := by decide +kernel
theorem dX7_init_60 : decode cX7_init 60 = .ok (.new 40, 3) := by decide +kernel
theorem dX7_init_63 : decode cX7_init 63 = .ok (.dup, 1) := by decide +kernel
theorem dX7_init_64 : decode cX7_init 64 = .ok (.invokespecial 42, 3) := by decide +kernel
theorem dX7_init_67 : decode cX7_init 67 = .ok (.putfield 43, 3) := by decide +kernel
theorem dX7_init_70 : decode cX7_init 70 = .ok (.return_, 1) := by decide +kernel
set_option maxRecDepth 20000 in
theorem ggX7_setHeavy_X2_draft : GoodIn wsX7_setHeavy wsX2_draft := goodIn_r _ [7, 8, 9, 10, 11, 6, 12, 13, 14, 15, 16, 17, 18, 19, 20, 21, 22, 23, 24, 25, 26, 27, 28, 29, 30, 31, 32, 33, 34, 35, 36, 37, 38, 39, 40, 41, 42, 43, 44, 45, 46, 47, 48, 49, 50, 51, 52, 53, 54, 55, 56, 57, 77, 78, 79, 80, 81, 82, 83, 84, 85, 86, 87, 88, 89, 90, 91, 92, 93, 94, 95, 96, 97] (by decide +kernel) (by decide +kernel)
set_option maxRecDepth 20000 in
theorem gX7_setHeavy_X2_draft : GoodIn wsX7_setHeavy (wsV RX7 47 RX2 yX2_draft wsX2_draft) := goodIn_app (goodIn_of _ (by decide +kernel)) ggX7_setHeavy_X2_draft
set_option maxRecDepth 20000 in
theorem ggX7_setHeavy_X5_changeBound : GoodIn wsX7_setHeavy wsX5_changeBound := goodIn_r _ [61, 31, 80, 81, 82, 83, 84, 85, 86, 87, 88, 89] (by decide +kernel) (by decide +kernel)
set_option maxRecDepth 20000 in
theorem gX7_setHeavy_X5_changeBound : GoodIn wsX7_setHeavy (wsV RX7 51 RX5 yX5_changeBound wsX5_changeBound) := goodIn_app (goodIn_of _ (by decide +kernel)) ggX7_setHeavy_X5_changeBound
set_option maxRecDepth 20000 in
theorem ggX7_setHeavy_X7_recorded : GoodIn wsX7_setHeavy wsX7_recorded := goodIn_r _ [66, 1, 67, 68, 69, 6, 70, 14, 13, 15, 16, 17, 18, 71, 72, 73, 74, 75, 76, 77, 78, 79] (by decide +kernel) (by decide +kernel)
set_option maxRecDepth 20000 in
theorem gX7_setHeavy_X7_recorded : GoodIn wsX7_setHeavy (wsV RX7 55 RX7 yX7_recorded wsX7_recorded) := goodIn_app (goodIn_of _ (by decide +kernel)) ggX7_setHeavy_X7_recorded
theorem dX7_setHeavy_0 : decode cX7_setHeavy 0 = .ok (.aload_n 0, 1) := by decide +kernel
theorem dX7_setHeavy_1 : decode cX7_setHeavy 1 = .ok (.getfield 22, 3) := by decide +kernel
theorem dX7_setHeavy_4 : decode cX7_setHeavy 4 = .ok (.aload_n 0, 1) := by decide +kernel
theorem dX7_setHeavy_5 : decode cX7_setHeavy 5 = .ok (.getfield 12, 3) := by decide +kernel
theorem dX7_setHeavy_8 : decode cX7_setHeavy 8 = .ok (.invokevirtual 47, 3) := by decide +kernel
theorem dX7_setHeavy_11 : decode cX7_setHeavy 11 = .ok (.aload_n 0, 1) := by decide +kernel
theorem dX7_setHeavy_12 : decode cX7_setHeavy 12 = .ok (.aload_n 0, 1) := by decide +kernel
theorem dX7_setHeavy_13 : decode cX7_setHeavy 13 = .ok (.getfield 12, 3) := by decide +kernel
theorem dX7_setHeavy_16 : decode cX7_setHeavy 16 = .ok (.iload_n 1, 1) := by decide +kernel
theorem dX7_setHeavy_17 : decode cX7_setHeavy 17 = .ok (.invokevirtual 51, 3) := by decide +kernel
theorem dX7_setHeavy_20 : decode cX7_setHeavy 20 = .ok (.invokevirtual 55, 3) := by decide +kernel
theorem dX7_setHeavy_23 : decode cX7_setHeavy 23 = .ok (.ireturn, 1) := by decide +kernel
set_option maxRecDepth 20000 in
theorem ggX7_make_X2_draft : GoodIn wsX7_make wsX2_draft := goodIn_r _ [7, 8, 9, 10, 11, 6, 12, 13, 14, 15, 16, 17, 18, 19, 20, 21, 22, 23, 24, 25, 26, 27, 28, 29, 30, 31, 32, 33, 34, 35, 36, 37, 38, 39, 40, 41, 42, 43, 44, 45, 46, 47, 48, 49, 50, 51, 52, 53, 54, 55, 56, 57, 120, 121, 122, 123, 124, 125, 126, 127, 128, 129, 130, 131, 132, 133, 134, 135, 136, 137, 138, 139, 140] (by decide +kernel) (by decide +kernel)
set_option maxRecDepth 20000 in
theorem gX7_make_X2_draft : GoodIn wsX7_make (wsV RX7 47 RX2 yX2_draft wsX2_draft) := goodIn_app (goodIn_of _ (by decide +kernel)) ggX7_make_X2_draft
set_option maxRecDepth 20000 in
theorem ggX7_make_X5_makeThing : GoodIn wsX7_make wsX5_makeThing := goodIn_r _ [61, 31, 29, 32, 35, 33, 24, 62, 63, 64, 65, 66, 67, 41, 68, 69, 70, 71, 72, 45, 73, 74, 75, 76, 77, 78, 79, 22, 80, 34, 81, 82, 83, 84, 85, 86, 87, 88, 89, 90, 91, 92, 93, 94, 95, 96, 46, 97, 98, 99, 100, 101, 43, 47, 48, 102, 103, 104, 105, 123, 124, 125, 126, 127, 128, 129, 130, 131, 132, 133, 134, 135, 136, 137] (by decide +kernel) (by decide +kernel)
set_option maxRecDepth 20000 in
theorem gX7_make_X5_makeThing : GoodIn wsX7_make (wsV RX7 58 RX5 yX5_makeThing wsX5_makeThing) := goodIn_app (goodIn_of _ (by decide +kernel)) ggX7_make_X5_makeThing
set_option maxRecDepth 20000 in
theorem ggX7_make_X7_recorded : GoodIn wsX7_make wsX7_recorded := goodIn_r _ [109, 1, 110, 111, 112, 6, 113, 14, 13, 15, 16, 17, 18, 114, 115, 116, 117, 118, 119, 120, 121, 122] (by decide +kernel) (by decide +kernel)
set_option maxRecDepth 20000 in
theorem gX7_make_X7_recorded : GoodIn wsX7_make (wsV RX7 55 RX7 yX7_recorded wsX7_recorded) := goodIn_app (goodIn_of _ (by decide +kernel)) ggX7_make_X7_recorded
theorem dX7_make_0 : decode cX7_make 0 = .ok (.aload_n 0, 1) := by decide +kernel
theorem dX7_make_1 : decode cX7_make 1 = .ok (.getfield 22, 3) := by decide +kernel
theorem dX7_make_4 : decode cX7_make 4 = .ok (.aload_n 0, 1) := by decide +kernel
theorem dX7_make_5 : decode cX7_make 5 = .ok (.getfield 12, 3) := by decide +kernel
theorem dX7_make_8 : decode cX7_make 8 = .ok (.invokevirtual 47, 3) := by decide +kernel
theorem dX7_make_11 : decode cX7_make 11 = .ok (.aload_n 0, 1) := by decide +kernel
theorem dX7_make_12 : decode cX7_make 12 = .ok (.aload_n 0, 1) := by decide +kernel
theorem dX7_make_13 : decode cX7_make 13 = .ok (.getfield 12, 3) := by decide +kernel
theorem dX7_make_16 : decode cX7_make 16 = .ok (.iload_n 1, 1) := by decide +kernel
theorem dX7_make_17 : decode cX7_make 17 = .ok (.iload_n 2, 1) := by decide +kernel
theorem dX7_make_18 : decode cX7_make 18 = .ok (.invokevirtual 58, 3) := by decide +kernel
theorem dX7_make_21 : decode cX7_make 21 = .ok (.invokevirtual 55, 3) := by decide +kernel
theorem dX7_make_24 : decode cX7_make 24 = .ok (.ireturn, 1) := by decide +kernel
set_option maxRecDepth 20000 in
theorem ggX7_link_X2_draft : GoodIn wsX7_link wsX2_draft := goodIn_r _ [7, 8, 9, 10, 11, 6, 12, 13, 14, 15, 16, 17, 18, 19, 20, 21, 22, 23, 24, 25, 26, 27, 28, 29, 30, 31, 32, 33, 34, 35, 36, 37, 38, 39, 40, 41, 42, 43, 44, 45, 46, 47, 48, 49, 50, 51, 52, 53, 54, 55, 56, 57, 129, 130, 131, 132, 133, 134, 135, 136, 137, 138, 139, 140, 141, 142, 143, 144, 145, 146, 147, 148, 149] (by decide +kernel) (by decide +kernel)
set_option maxRecDepth 20000 in
theorem gX7_link_X2_draft : GoodIn wsX7_link (wsV RX7 47 RX2 yX2_draft wsX2_draft) := goodIn_app (goodIn_of _ (by decide +kernel)) ggX7_link_X2_draft
set_option maxRecDepth 20000 in
theorem ggX7_link_X5_linkHooks : GoodIn wsX7_link wsX5_linkHooks := goodIn_r _ [61, 24, 29, 62, 63, 64, 65, 66, 67, 68, 69, 22, 70, 33, 30, 71, 72, 73, 74, 34, 75, 76, 77, 78, 79, 80, 81, 41, 82, 46, 83, 84, 85, 86, 45, 87, 88, 89, 90, 91, 92, 93, 94, 35, 95, 96, 97, 98, 99, 100, 101, 102, 43, 47, 48, 103, 104, 105, 52, 106, 57, 54, 107, 108, 109, 110, 111, 112, 113, 114, 132, 133, 134, 135, 136, 137, 138, 139, 140, 141, 142, 143, 144, 145, 146, 147, 148, 149] (by decide +kernel) (by decide +kernel)
set_option maxRecDepth 20000 in
theorem gX7_link_X5_linkHooks : GoodIn wsX7_link (wsV RX7 62 RX5 yX5_linkHooks wsX5_linkHooks) := goodIn_app (goodIn_of _ (by decide +kernel)) ggX7_link_X5_linkHooks
set_option maxRecDepth 20000 in
theorem ggX7_link_X7_recorded : GoodIn wsX7_link wsX7_recorded := goodIn_r _ [118, 1, 119, 120, 121, 6, 122, 14, 13, 15, 16, 17, 18, 123, 124, 125, 126, 127, 128, 129, 130, 131] (by decide +kernel) (by decide +kernel)
set_option maxRecDepth 20000 in
theorem gX7_link_X7_recorded : GoodIn wsX7_link (wsV RX7 55 RX7 yX7_recorded wsX7_recorded) := goodIn_app (goodIn_of _ (by decide +kernel)) ggX7_link_X7_recorded
