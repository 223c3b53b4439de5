theorem dX5_firstWithNote_2 : decode cX5_firstWithNote 2 = .ok (.iload_n 2, 1) := by decide +kernel
theorem dX5_firstWithNote_3 : decode cX5_firstWithNote 3 = .ok (.sipush 260, 3) := by decide +kernel
theorem dX5_firstWithNote_6 : decode cX5_firstWithNote 6 = .ok (.if_icmp .ge 37, 3) := by decide +kernel
theorem dX5_firstWithNote_9 : decode cX5_firstWithNote 9 = .ok (.aload_n 0, 1) := by decide +kernel
theorem dX5_firstWithNote_10 : decode cX5_firstWithNote 10 = .ok (.getfield 18, 3) := by decide +kernel
theorem dX5_firstWithNote_13 : decode cX5_firstWithNote 13 = .ok (.iload_n 1, 1) := by decide +kernel
theorem dX5_firstWithNote_14 : decode cX5_firstWithNote 14 = .ok (.iload_n 2, 1) := by decide +kernel
theorem dX5_firstWithNote_15 : decode cX5_firstWithNote 15 = .ok (.invokevirtual 85, 3) := by decide +kernel
theorem dX5_firstWithNote_18 : decode cX5_firstWithNote 18 = .ok (.ifCond .eq 19, 3) := by decide +kernel
theorem dX5_firstWithNote_21 : decode cX5_firstWithNote 21 = .ok (.aload_n 0, 1) := by decide +kernel
theorem dX5_firstWithNote_22 : decode cX5_firstWithNote 22 = .ok (.getfield 18, 3) := by decide +kernel
theorem dX5_firstWithNote_25 : decode cX5_firstWithNote 25 = .ok (.iload_n 2, 1) := by decide +kernel
theorem dX5_firstWithNote_26 : decode cX5_firstWithNote 26 = .ok (.invokevirtual 79, 3) := by decide +kernel
theorem dX5_firstWithNote_29 : decode cX5_firstWithNote 29 = .ok (.sipush 300, 3) := by decide +kernel
theorem dX5_firstWithNote_32 : decode cX5_firstWithNote 32 = .ok (.if_icmp .eq 5, 3) := by decide +kernel
theorem dX5_firstWithNote_35 : decode cX5_firstWithNote 35 = .ok (.iload_n 2, 1) := by decide +kernel
theorem dX5_firstWithNote_36 : decode cX5_firstWithNote 36 = .ok (.ireturn, 1) := by decide +kernel
theorem dX5_firstWithNote_37 : decode cX5_firstWithNote 37 = .ok (.iinc 2 1, 3) := by decide +kernel
theorem dX5_firstWithNote_40 : decode cX5_firstWithNote 40 = .ok (.goto (-38), 3) := by decide +kernel
theorem dX5_firstWithNote_43 : decode cX5_firstWithNote 43 = .ok (.sipush 300, 3) := by decide +kernel
theorem dX5_firstWithNote_46 : decode cX5_firstWithNote 46 = .ok (.ireturn, 1) := by decide +kernel
set_option maxRecDepth 20000 in
theorem ggX5_mendTwins_X5_isThing : GoodIn wsX5_mendTwins wsX5_isThing := goodIn_r _ [7, 8, 52, 53, 54, 55, 56, 57, 58, 59, 60, 61] (by decide +kernel) (by decide +kernel)
set_option maxRecDepth 20000 in
theorem gX5_mendTwins_X5_isThing : GoodIn wsX5_mendTwins (wsV RX5 159 RX5 yX5_isThing wsX5_isThing) := goodIn_app (goodIn_of _ (by decide +kernel)) ggX5_mendTwins_X5_isThing
set_option maxRecDepth 20000 in
theorem ggX5_mendTwins_X5_hasTwins : GoodIn wsX5_mendTwins wsX5_hasTwins := goodIn_r _ [12, 2, 13, 14, 15, 16, 17, 18, 19, 20, 21, 22, 23, 24, 25, 26, 6, 27, 28, 1, 29, 30, 31, 32, 52, 53, 54, 55, 56, 57, 58, 59, 60, 61, 62, 63, 64, 65, 66] (by decide +kernel) (by decide +kernel)
set_option maxRecDepth 20000 in
theorem gX5_mendTwins_X5_hasTwins : GoodIn wsX5_mendTwins (wsV RX5 92 RX5 yX5_hasTwins wsX5_hasTwins) := goodIn_app (goodIn_of _ (by decide +kernel)) ggX5_mendTwins_X5_hasTwins
set_option maxRecDepth 20000 in
theorem ggX5_mendTwins_X0_addressOf : GoodIn wsX5_mendTwins wsX0_addressOf := goodIn_r _ [36, 37, 14, 15, 16, 17, 18, 19, 20, 21, 22, 23, 62, 63, 64, 65, 66] (by decide +kernel) (by decide +kernel)
set_option maxRecDepth 20000 in
theorem gX5_mendTwins_X0_addressOf : GoodIn wsX5_mendTwins (wsV RX5 168 RX0 yX0_addressOf wsX0_addressOf) := goodIn_app (goodIn_of _ (by decide +kernel)) ggX5_mendTwins_X0_addressOf
set_option maxRecDepth 20000 in
theorem ggX5_mendTwins_X0_isOf : GoodIn wsX5_mendTwins wsX0_isOf := goodIn_r _ [17, 18, 19, 20, 21, 16, 22, 23, 62, 63, 64, 65, 66] (by decide +kernel) (by decide +kernel)
set_option maxRecDepth 20000 in
theorem gX5_mendTwins_X0_isOf : GoodIn wsX5_mendTwins (wsV RX5 85 RX0 yX0_isOf wsX0_isOf) := goodIn_app (goodIn_of _ (by decide +kernel)) ggX5_mendTwins_X0_isOf
set_option maxRecDepth 20000 in
theorem ggX5_mendTwins_X0_remove : GoodIn wsX5_mendTwins wsX0_remove := goodIn_r _ [41, 23, 62, 63, 64, 65, 66] (by decide +kernel) (by decide +kernel)
set_option maxRecDepth 20000 in
theorem gX5_mendTwins_X0_remove : GoodIn wsX5_mendTwins (wsV RX5 172 RX0 yX0_remove wsX0_remove) := goodIn_app (goodIn_of _ (by decide +kernel)) ggX5_mendTwins_X0_remove
set_option maxRecDepth 20000 in
theorem ggX5_mendTwins_X0_replaceNames : GoodIn wsX5_mendTwins wsX0_replaceNames := goodIn_r _ [45, 46, 62, 63, 64, 65, 66] (by decide +kernel) (by decide +kernel)
set_option maxRecDepth 20000 in
theorem gX5_mendTwins_X0_replaceNames : GoodIn wsX5_mendTwins (wsV RX5 175 RX0 yX0_replaceNames wsX0_replaceNames) := goodIn_app (goodIn_of _ (by decide +kernel)) ggX5_mendTwins_X0_replaceNames
set_option maxRecDepth 20000 in
theorem ggX5_mendTwins_X5_replaceHooks : GoodIn wsX5_mendTwins wsX5_replaceHooks := goodIn_r _ [50, 51, 52, 53, 54, 55, 56, 57, 58, 59, 60, 61] (by decide +kernel) (by decide +kernel)
set_option maxRecDepth 20000 in
theorem gX5_mendTwins_X5_replaceHooks : GoodIn wsX5_mendTwins (wsV RX5 179 RX5 yX5_replaceHooks wsX5_replaceHooks) := goodIn_app (goodIn_of _ (by decide +kernel)) ggX5_mendTwins_X5_replaceHooks
theorem dX5_mendTwins_0 : decode cX5_mendTwins 0 = .ok (.aload_n 0, 1) := by decide +kernel
theorem dX5_mendTwins_1 : decode cX5_mendTwins 1 = .ok (.iload_n 1, 1) := by decide +kernel
theorem dX5_mendTwins_2 : decode cX5_mendTwins 2 = .ok (.invokevirtual 159, 3) := by decide +kernel
theorem dX5_mendTwins_5 : decode cX5_mendTwins 5 = .ok (.ifCond .ne 5, 3) := by decide +kernel
theorem dX5_mendTwins_8 : decode cX5_mendTwins 8 = .ok (.iconst (-1), 1) := by decide +kernel
theorem dX5_mendTwins_9 : decode cX5_mendTwins 9 = .ok (.ireturn, 1) := by decide +kernel
theorem dX5_mendTwins_10 : decode cX5_mendTwins 10 = .ok (.aload_n 0, 1) := by decide +kernel
theorem dX5_mendTwins_11 : decode cX5_mendTwins 11 = .ok (.getfield 55, 3) := by decide +kernel
theorem dX5_mendTwins_14 : decode cX5_mendTwins 14 = .ok (.ifCond .ne 11, 3) := by decide +kernel
theorem dX5_mendTwins_17 : decode cX5_mendTwins 17 = .ok (.aload_n 0, 1) := by decide +kernel
theorem dX5_mendTwins_18 : decode cX5_mendTwins 18 = .ok (.iload_n 1, 1) := by decide +kernel
theorem dX5_mendTwins_19 : decode cX5_mendTwins 19 = .ok (.invokevirtual 92, 3) := by decide +kernel
theorem dX5_mendTwins_22 : decode cX5_mendTwins 22 = .ok (.ifCond .ne 6, 3) := by decide +kernel
theorem dX5_mendTwins_25 : decode cX5_mendTwins 25 = .ok (.bipush (-2), 2) := by decide +kernel
theorem dX5_mendTwins_27 : decode cX5_mendTwins 27 = .ok (.ireturn, 1) := by decide +kernel
theorem dX5_mendTwins_28 : decode cX5_mendTwins 28 = .ok (.aload_n 0, 1) := by decide +kernel
theorem dX5_mendTwins_29 : decode cX5_mendTwins 29 = .ok (.getfield 18, 3) := by decide +kernel
theorem dX5_mendTwins_32 : decode cX5_mendTwins 32 = .ok (.iload_n 1, 1) := by decide +kernel
theorem dX5_mendTwins_33 : decode cX5_mendTwins 33 = .ok (.iconst 0, 1) := by decide +kernel
theorem dX5_mendTwins_34 : decode cX5_mendTwins 34 = .ok (.invokevirtual 168, 3) := by decide +kernel
theorem dX5_mendTwins_37 : decode cX5_mendTwins 37 = .ok (.istore_n 2, 1) := by decide +kernel
theorem dX5_mendTwins_38 : decode cX5_mendTwins 38 = .ok (.iconst 0, 1) := by decide +kernel
theorem dX5_mendTwins_39 : decode cX5_mendTwins 39 = .ok (.istore_n 3, 1) := by decide +kernel
theorem dX5_mendTwins_40 : decode cX5_mendTwins 40 = .ok (.iload_n 2, 1) := by decide +kernel
theorem dX5_mendTwins_41 : decode cX5_mendTwins 41 = .ok (.iconst 1, 1) := by decide +kernel
theorem dX5_mendTwins_42 : decode cX5_mendTwins 42 = .ok (.iadd, 1) := by decide +kernel
theorem dX5_mendTwins_43 : decode cX5_mendTwins 43 = .ok (.istore 4, 2) := by decide +kernel
theorem dX5_mendTwins_45 : decode cX5_mendTwins 45 = .ok (.iload 4, 2) := by decide +kernel
theorem dX5_mendTwins_47 : decode cX5_mendTwins 47 = .ok (.sipush 260, 3) := by decide +kernel
theorem dX5_mendTwins_50 : decode cX5_mendTwins 50 = .ok (.if_icmp .ge 51, 3) := by decide +kernel
theorem dX5_mendTwins_53 : decode cX5_mendTwins 53 = .ok (.aload_n 0, 1) := by decide +kernel
theorem dX5_mendTwins_54 : decode cX5_mendTwins 54 = .ok (.getfield 18, 3) := by decide +kernel
theorem dX5_mendTwins_57 : decode cX5_mendTwins 57 = .ok (.iload_n 1, 1) := by decide +kernel
theorem dX5_mendTwins_58 : decode cX5_mendTwins 58 = .ok (.iload 4, 2) := by decide +kernel
theorem dX5_mendTwins_60 : decode cX5_mendTwins 60 = .ok (.invokevirtual 85, 3) := by decide +kernel
theorem dX5_mendTwins_63 : decode cX5_mendTwins 63 = .ok (.ifCond .eq 32, 3) := by decide +kernel
theorem dX5_mendTwins_66 : decode cX5_mendTwins 66 = .ok (.aload_n 0, 1) := by decide +kernel
theorem dX5_mendTwins_67 : decode cX5_mendTwins 67 = .ok (.getfield 18, 3) := by decide +kernel
theorem dX5_mendTwins_70 : decode cX5_mendTwins 70 = .ok (.iload 4, 2) := by decide +kernel
theorem dX5_mendTwins_72 : decode cX5_mendTwins 72 = .ok (.invokevirtual 172, 3) := by decide +kernel
theorem dX5_mendTwins_75 : decode cX5_mendTwins 75 = .ok (.aload_n 0, 1) := by decide +kernel
theorem dX5_mendTwins_76 : decode cX5_mendTwins 76 = .ok (.getfield 18, 3) := by decide +kernel
theorem dX5_mendTwins_79 : decode cX5_mendTwins 79 = .ok (.iload 4, 2) := by decide +kernel
theorem dX5_mendTwins_81 : decode cX5_mendTwins 81 = .ok (.iload_n 2, 1) := by decide +kernel
theorem dX5_mendTwins_82 : decode cX5_mendTwins 82 = .ok (.invokevirtual 175, 3) := by decide +kernel
theorem dX5_mendTwins_85 : decode cX5_mendTwins 85 = .ok (.aload_n 0, 1) := by decide +kernel
theorem dX5_mendTwins_86 : decode cX5_mendTwins 86 = .ok (.iload 4, 2) := by decide +kernel
theorem dX5_mendTwins_88 : decode cX5_mendTwins 88 = .ok (.iload_n 2, 1) := by decide +kernel
theorem dX5_mendTwins_89 : decode cX5_mendTwins 89 = .ok (.invokevirtual 179, 3) := by decide +kernel
theorem dX5_mendTwins_92 : decode cX5_mendTwins 92 = .ok (.iinc 3 1, 3) := by decide +kernel
theorem dX5_mendTwins_95 : decode cX5_mendTwins 95 = .ok (.iinc 4 1, 3) := by decide +kernel
theorem dX5_mendTwins_98 : decode cX5_mendTwins 98 = .ok (.goto (-53), 3) := by decide +kernel
theorem dX5_mendTwins_101 : decode cX5_mendTwins 101 = .ok (.iload_n 3, 1) := by decide +kernel
theorem dX5_mendTwins_102 : decode cX5_mendTwins 102 = .ok (.ireturn, 1) := by decide +kernel
theorem dX5_replaceHooks_0 : decode cX5_replaceHooks 0 = .ok (.iconst 0, 1) := by decide +kernel
theorem dX5_replaceHooks_1 : decode cX5_replaceHooks 1 = .ok (.istore_n 3, 1) := by decide +kernel
theorem dX5_replaceHooks_2 : decode cX5_replaceHooks 2 = .ok (.iload_n 3, 1) := by decide +kernel
theorem dX5_replaceHooks_3 : decode cX5_replaceHooks 3 = .ok (.bipush 8, 2) := by decide +kernel
theorem dX5_replaceHooks_5 : decode cX5_replaceHooks 5 = .ok (.if_icmp .ge 26, 3) := by decide +kernel
theorem dX5_replaceHooks_8 : decode cX5_replaceHooks 8 = .ok (.aload_n 0, 1) := by decide +kernel
theorem dX5_replaceHooks_9 : decode cX5_replaceHooks 9 = .ok (.getfield 9, 3) := by decide +kernel
theorem dX5_replaceHooks_12 : decode cX5_replaceHooks 12 = .ok (.iload_n 3, 1) := by decide +kernel
theorem dX5_replaceHooks_13 : decode cX5_replaceHooks 13 = .ok (.iaload, 1) := by decide +kernel
theorem dX5_replaceHooks_14 : decode cX5_replaceHooks 14 = .ok (.iload_n 1, 1) := by decide +kernel
theorem dX5_replaceHooks_15 : decode cX5_replaceHooks 15 = .ok (.if_icmp .ne 10, 3) := by decide +kernel
theorem dX5_replaceHooks_18 : decode cX5_replaceHooks 18 = .ok (.aload_n 0, 1) := by decide +kernel
theorem dX5_replaceHooks_19 : decode cX5_replaceHooks 19 = .ok (.getfield 9, 3) := by decide +kernel
theorem dX5_replaceHooks_22 : decode cX5_replaceHooks 22 = .ok (.iload_n 3, 1) := by decide +kernel
theorem dX5_replaceHooks_23 : decode cX5_replaceHooks 23 = .ok (.iload_n 2, 1) := by decide +kernel
theorem dX5_replaceHooks_24 : decode cX5_replaceHooks 24 = .ok (.iastore, 1) := by decide +kernel
theorem dX5_replaceHooks_25 : decode cX5_replaceHooks 25 = .ok (.iinc 3 1, 3) := by decide +kernel
theorem dX5_replaceHooks_28 : decode cX5_replaceHooks 28 = .ok (.goto (-26), 3) := by decide +kernel
theorem dX5_replaceHooks_31 : decode cX5_replaceHooks 31 = .ok (.return_, 1) := by decide +kernel
set_option maxRecDepth 20000 in
theorem ggX5_readIn_X5_isInOldHalf : GoodIn wsX5_readIn wsX5_isInOldHalf := goodIn_r _ [8, 9, 2, 10, 11, 12, 7, 13, 56, 57, 58, 59, 60, 61, 62, 63, 64, 65] (by decide +kernel) (by decide +kernel)
set_option maxRecDepth 20000 in
theorem gX5_readIn_X5_isInOldHalf : GoodIn wsX5_readIn (wsV RX5 89 RX5 yX5_isInOldHalf wsX5_isInOldHalf) := goodIn_app (goodIn_of _ (by decide +kernel)) ggX5_readIn_X5_isInOldHalf
set_option maxRecDepth 20000 in
theorem ggX5_readIn_X0_noteAt : GoodIn wsX5_readIn wsX0_noteAt := goodIn_r _ [18, 19, 20, 21, 22, 17, 23, 24, 66, 67, 68, 69, 70] (by decide +kernel) (by decide +kernel)
set_option maxRecDepth 20000 in
theorem gX5_readIn_X0_noteAt : GoodIn wsX5_readIn (wsV RX5 79 RX0 yX0_noteAt wsX0_noteAt) := goodIn_app (goodIn_of _ (by decide +kernel)) ggX5_readIn_X0_noteAt
set_option maxRecDepth 20000 in
theorem ggX5_readIn_X0_sizeAt : GoodIn wsX5_readIn wsX0_sizeAt := goodIn_r _ [28, 24, 20, 21, 22, 17, 23, 66, 67, 68, 69, 70] (by decide +kernel) (by decide +kernel)
set_option maxRecDepth 20000 in
theorem gX5_readIn_X0_sizeAt : GoodIn wsX5_readIn (wsV RX5 82 RX0 yX0_sizeAt wsX0_sizeAt) := goodIn_app (goodIn_of _ (by decide +kernel)) ggX5_readIn_X0_sizeAt
set_option maxRecDepth 20000 in
theorem ggX5_readIn_X5_carryOver : GoodIn wsX5_readIn wsX5_carryOver := goodIn_r _ [32, 9, 33, 1, 3, 34, 35, 36, 7, 37, 10, 11, 12, 13, 38, 39, 40, 17, 41, 42, 24, 19, 43, 44, 45, 46, 47, 48, 49, 50, 51, 56, 57, 58, 59, 60, 61, 62, 63, 64, 65, 66, 67, 68, 69, 70, 71, 72, 73] (by decide +kernel) (by decide +kernel)
set_option maxRecDepth 20000 in
theorem gX5_readIn_X5_carryOver : GoodIn wsX5_readIn (wsV RX5 182 RX5 yX5_carryOver wsX5_carryOver) := goodIn_app (goodIn_of _ (by decide +kernel)) ggX5_readIn_X5_carryOver
set_option maxRecDepth 20000 in
theorem ggX5_readIn_X0_mark : GoodIn wsX5_readIn wsX0_mark := goodIn_r _ [55, 43, 20, 21, 22, 17, 23, 24, 66, 67, 68, 69, 70] (by decide +kernel) (by decide +kernel)
set_option maxRecDepth 20000 in
theorem gX5_readIn_X0_mark : GoodIn wsX5_readIn (wsV RX5 124 RX0 yX0_mark wsX0_mark) := goodIn_app (goodIn_of _ (by decide +kernel)) ggX5_readIn_X0_mark
set_option maxRecDepth 20000 in
theorem ggX5_readIn_X3_join : GoodIn wsX5_readIn wsX3_join := goodIn_r _ [49, 50, 51, 71, 72, 73] (by decide +kernel) (by decide +kernel)
set_option maxRecDepth 20000 in
theorem gX5_readIn_X3_join : GoodIn wsX5_readIn (wsV RX5 185 RX3 yX3_join wsX3_join) := goodIn_app (goodIn_of _ (by decide +kernel)) ggX5_readIn_X3_join
theorem dX5_readIn_0 : decode cX5_readIn 0 = .ok (.aload_n 1, 1) := by decide +kernel
theorem dX5_readIn_1 : decode cX5_readIn 1 = .ok (.ifnull 13, 3) := by decide +kernel
theorem dX5_readIn_4 : decode cX5_readIn 4 = .ok (.iload_n 2, 1) := by decide +kernel
theorem dX5_readIn_5 : decode cX5_readIn 5 = .ok (.ifCond .lt 9, 3) := by decide +kernel
theorem dX5_readIn_8 : decode cX5_readIn 8 = .ok (.iload_n 2, 1) := by decide +kernel
theorem dX5_readIn_9 : decode cX5_readIn 9 = .ok (.aload_n 1, 1) := by decide +kernel
theorem dX5_readIn_10 : decode cX5_readIn 10 = .ok (.arraylength, 1) := by decide +kernel
theorem dX5_readIn_11 : decode cX5_readIn 11 = .ok (.if_icmp .lt 7, 3) := by decide +kernel
theorem dX5_readIn_14 : decode cX5_readIn 14 = .ok (.sipush 300, 3) := by decide +kernel
theorem dX5_readIn_17 : decode cX5_readIn 17 = .ok (.ireturn, 1) := by decide +kernel
theorem dX5_readIn_18 : decode cX5_readIn 18 = .ok (.aload_n 1, 1) := by decide +kernel
theorem dX5_readIn_19 : decode cX5_readIn 19 = .ok (.iload_n 2, 1) := by decide +kernel
theorem dX5_readIn_20 : decode cX5_readIn 20 = .ok (.iaload, 1) := by decide +kernel
theorem dX5_readIn_21 : decode cX5_readIn 21 = .ok (.istore_n 3, 1) := by decide +kernel
theorem dX5_readIn_22 : decode cX5_readIn 22 = .ok (.aload_n 0, 1) := by decide +kernel
theorem dX5_readIn_23 : decode cX5_readIn 23 = .ok (.iload_n 3, 1) := by decide +kernel
theorem dX5_readIn_24 : decode cX5_readIn 24 = .ok (.invokevirtual 89, 3) := by decide +kernel
theorem dX5_readIn_27 : decode cX5_readIn 27 = .ok (.ifCond .eq 45, 3) := by decide +kernel
theorem dX5_readIn_30 : decode cX5_readIn 30 = .ok (.aload_n 0, 1) := by decide +kernel
theorem dX5_readIn_31 : decode cX5_readIn 31 = .ok (.getfield 18, 3) := by decide +kernel
theorem dX5_readIn_34 : decode cX5_readIn 34 = .ok (.iload_n 3, 1) := by decide +kernel
theorem dX5_readIn_35 : decode cX5_readIn 35 = .ok (.invokevirtual 79, 3) := by decide +kernel
theorem dX5_readIn_38 : decode cX5_readIn 38 = .ok (.istore 4, 2) := by decide +kernel
theorem dX5_readIn_40 : decode cX5_readIn 40 = .ok (.aload_n 1, 1) := by decide +kernel
theorem dX5_readIn_41 : decode cX5_readIn 41 = .ok (.iload_n 2, 1) := by decide +kernel
theorem dX5_readIn_42 : decode cX5_readIn 42 = .ok (.iload 4, 2) := by decide +kernel
theorem dX5_readIn_44 : decode cX5_readIn 44 = .ok (.sipush 300, 3) := by decide +kernel
theorem dX5_readIn_47 : decode cX5_readIn 47 = .ok (.if_icmp .eq 8, 3) := by decide +kernel
theorem dX5_readIn_50 : decode cX5_readIn 50 = .ok (.iload 4, 2) := by decide +kernel
theorem dX5_readIn_52 : decode cX5_readIn 52 = .ok (.goto 16, 3) := by decide +kernel
theorem dX5_readIn_55 : decode cX5_readIn 55 = .ok (.aload_n 0, 1) := by decide +kernel
theorem dX5_readIn_56 : decode cX5_readIn 56 = .ok (.iload_n 3, 1) := by decide +kernel
theorem dX5_readIn_57 : decode cX5_readIn 57 = .ok (.aload_n 0, 1) := by decide +kernel
theorem dX5_readIn_58 : decode cX5_readIn 58 = .ok (.getfield 18, 3) := by decide +kernel
theorem dX5_readIn_61 : decode cX5_readIn 61 = .ok (.iload_n 3, 1) := by decide +kernel
theorem dX5_readIn_62 : decode cX5_readIn 62 = .ok (.invokevirtual 82, 3) := by decide +kernel
theorem dX5_readIn_65 : decode cX5_readIn 65 = .ok (.invokevirtual 182, 3) := by decide +kernel
theorem dX5_readIn_68 : decode cX5_readIn 68 = .ok (.iastore, 1) := by decide +kernel
theorem dX5_readIn_69 : decode cX5_readIn 69 = .ok (.goto 36, 3) := by decide +kernel
theorem dX5_readIn_72 : decode cX5_readIn 72 = .ok (.aload_n 0, 1) := by decide +kernel
theorem dX5_readIn_73 : decode cX5_readIn 73 = .ok (.getfield 55, 3) := by decide +kernel
theorem dX5_readIn_76 : decode cX5_readIn 76 = .ok (.ifCond .eq 29, 3) := by decide +kernel
theorem dX5_readIn_79 : decode cX5_readIn 79 = .ok (.iload_n 3, 1) := by decide +kernel
theorem dX5_readIn_80 : decode cX5_readIn 80 = .ok (.sipush 200, 3) := by decide +kernel
theorem dX5_readIn_83 : decode cX5_readIn 83 = .ok (.if_icmp .lt 22, 3) := by decide +kernel
theorem dX5_readIn_86 : decode cX5_readIn 86 = .ok (.aload_n 0, 1) := by decide +kernel
theorem dX5_readIn_87 : decode cX5_readIn 87 = .ok (.getfield 18, 3) := by decide +kernel
theorem dX5_readIn_90 : decode cX5_readIn 90 = .ok (.iload_n 3, 1) := by decide +kernel
theorem dX5_readIn_91 : decode cX5_readIn 91 = .ok (.invokevirtual 124, 3) := by decide +kernel
theorem dX5_readIn_94 : decode cX5_readIn 94 = .ok (.ifCond .eq 11, 3) := by decide +kernel
theorem dX5_readIn_97 : decode cX5_readIn 97 = .ok (.aload_n 0, 1) := by decide +kernel
theorem dX5_readIn_98 : decode cX5_readIn 98 = .ok (.getfield 25, 3) := by decide +kernel
theorem dX5_readIn_101 : decode cX5_readIn 101 = .ok (.iload_n 3, 1) := by decide +kernel
theorem dX5_readIn_102 : decode cX5_readIn 102 = .ok (.invokevirtual 185, 3) := by decide +kernel
theorem dX5_readIn_105 : decode cX5_readIn 105 = .ok (.aload_n 1, 1) := by decide +kernel
theorem dX5_readIn_106 : decode cX5_readIn 106 = .ok (.iload_n 2, 1) := by decide +kernel
theorem dX5_readIn_107 : decode cX5_readIn 107 = .ok (.iaload, 1) := by decide +kernel
theorem dX5_readIn_108 : decode cX5_readIn 108 = .ok (.ireturn, 1) := by decide +kernel
set_option maxRecDepth 20000 in
theorem ggX5_carryOver_X5_freeInHalf : GoodIn wsX5_carryOver wsX5_freeInHalf := goodIn_r _ [9, 2, 31, 32, 33, 34, 35, 36, 37, 38, 39, 40] (by decide +kernel) (by decide +kernel)
set_option maxRecDepth 20000 in
theorem gX5_carryOver_X5_freeInHalf : GoodIn wsX5_carryOver (wsV RX5 99 RX5 yX5_freeInHalf wsX5_freeInHalf) := goodIn_app (goodIn_of _ (by decide +kernel)) ggX5_carryOver_X5_freeInHalf
set_option maxRecDepth 20000 in
theorem ggX5_carryOver_X5_addressOfHalf : GoodIn wsX5_carryOver wsX5_addressOfHalf := goodIn_r _ [13] (by decide +kernel) (by decide +kernel)
set_option maxRecDepth 20000 in
theorem gX5_carryOver_X5_addressOfHalf : GoodIn wsX5_carryOver (wsV RX5 75 RX5 yX5_addressOfHalf wsX5_addressOfHalf) := goodIn_app (goodIn_of _ (by decide +kernel)) ggX5_carryOver_X5_addressOfHalf
set_option maxRecDepth 20000 in
theorem ggX5_carryOver_X0_layAgain : GoodIn wsX5_carryOver wsX0_layAgain := goodIn_r _ [18, 19, 20, 21, 22, 23, 41, 42, 43, 44, 45] (by decide +kernel) (by decide +kernel)
set_option maxRecDepth 20000 in
theorem gX5_carryOver_X0_layAgain : GoodIn wsX5_carryOver (wsV RX5 188 RX0 yX0_layAgain wsX0_layAgain) := goodIn_app (goodIn_of _ (by decide +kernel)) ggX5_carryOver_X0_layAgain
set_option maxRecDepth 20000 in
theorem ggX5_carryOver_X3_join : GoodIn wsX5_carryOver wsX3_join := goodIn_r _ [28, 29, 30, 46, 47, 48] (by decide +kernel) (by decide +kernel)
set_option maxRecDepth 20000 in
theorem gX5_carryOver_X3_join : GoodIn wsX5_carryOver (wsV RX5 185 RX3 yX3_join wsX3_join) := goodIn_app (goodIn_of _ (by decide +kernel)) ggX5_carryOver_X3_join
theorem dX5_carryOver_0 : decode cX5_carryOver 0 = .ok (.iload_n 2, 1) := by decide +kernel
theorem dX5_carryOver_1 : decode cX5_carryOver 1 = .ok (.ifCond .eq 11, 3) := by decide +kernel
theorem dX5_carryOver_4 : decode cX5_carryOver 4 = .ok (.iload_n 2, 1) := by decide +kernel
theorem dX5_carryOver_5 : decode cX5_carryOver 5 = .ok (.aload_n 0, 1) := by decide +kernel
theorem dX5_carryOver_6 : decode cX5_carryOver 6 = .ok (.invokevirtual 99, 3) := by decide +kernel
theorem dX5_carryOver_9 : decode cX5_carryOver 9 = .ok (.if_icmp .le 5, 3) := by decide +kernel
theorem dX5_carryOver_12 : decode cX5_carryOver 12 = .ok (.iload_n 1, 1) := by decide +kernel
theorem dX5_carryOver_13 : decode cX5_carryOver 13 = .ok (.ireturn, 1) := by decide +kernel
theorem dX5_carryOver_14 : decode cX5_carryOver 14 = .ok (.aload_n 0, 1) := by decide +kernel
theorem dX5_carryOver_15 : decode cX5_carryOver 15 = .ok (.aload_n 0, 1) := by decide +kernel
theorem dX5_carryOver_16 : decode cX5_carryOver 16 = .ok (.getfield 59, 3) := by decide +kernel
theorem dX5_carryOver_19 : decode cX5_carryOver 19 = .ok (.invokevirtual 75, 3) := by decide +kernel
theorem dX5_carryOver_22 : decode cX5_carryOver 22 = .ok (.aload_n 0, 1) := by decide +kernel
theorem dX5_carryOver_23 : decode cX5_carryOver 23 = .ok (.getfield 62, 3) := by decide +kernel
theorem dX5_carryOver_26 : decode cX5_carryOver 26 = .ok (.iadd, 1) := by decide +kernel
theorem dX5_carryOver_27 : decode cX5_carryOver 27 = .ok (.istore_n 3, 1) := by decide +kernel
theorem dX5_carryOver_28 : decode cX5_carryOver 28 = .ok (.aload_n 0, 1) := by decide +kernel
theorem dX5_carryOver_29 : decode cX5_carryOver 29 = .ok (.getfield 18, 3) := by decide +kernel
theorem dX5_carryOver_32 : decode cX5_carryOver 32 = .ok (.iload_n 1, 1) := by decide +kernel
theorem dX5_carryOver_33 : decode cX5_carryOver 33 = .ok (.iload_n 3, 1) := by decide +kernel
theorem dX5_carryOver_34 : decode cX5_carryOver 34 = .ok (.invokevirtual 188, 3) := by decide +kernel
theorem dX5_carryOver_37 : decode cX5_carryOver 37 = .ok (.aload_n 0, 1) := by decide +kernel
theorem dX5_carryOver_38 : decode cX5_carryOver 38 = .ok (.dup, 1) := by decide +kernel
theorem dX5_carryOver_39 : decode cX5_carryOver 39 = .ok (.getfield 62, 3) := by decide +kernel
theorem dX5_carryOver_42 : decode cX5_carryOver 42 = .ok (.iload_n 2, 1) := by decide +kernel
theorem dX5_carryOver_43 : decode cX5_carryOver 43 = .ok (.iadd, 1) := by decide +kernel
theorem dX5_carryOver_44 : decode cX5_carryOver 44 = .ok (.putfield 62, 3) := by decide +kernel
theorem dX5_carryOver_47 : decode cX5_carryOver 47 = .ok (.aload_n 0, 1) := by decide +kernel
theorem dX5_carryOver_48 : decode cX5_carryOver 48 = .ok (.getfield 25, 3) := by decide +kernel
theorem dX5_carryOver_51 : decode cX5_carryOver 51 = .ok (.iload_n 3, 1) := by decide +kernel
theorem dX5_carryOver_52 : decode cX5_carryOver 52 = .ok (.invokevirtual 185, 3) := by decide +kernel
theorem dX5_carryOver_55 : decode cX5_carryOver 55 = .ok (.iload_n 3, 1) := by decide +kernel
theorem dX5_carryOver_56 : decode cX5_carryOver 56 = .ok (.ireturn, 1) := by decide +kernel
theorem dX6_init_0 : decode cX6_init 0 = .ok (.aload_n 0, 1) := by decide +kernel
theorem dX6_init_1 : decode cX6_init 1 = .ok (.invokespecial 3, 3) := by decide +kernel
theorem dX6_init_4 : decode cX6_init 4 = .ok (.aload_n 0, 1) := by decide +kernel
theorem dX6_init_5 : decode cX6_init 5 = .ok (.bipush 80, 2) := by decide +kernel
theorem dX6_init_7 : decode cX6_init 7 = .ok (.newarray .int, 2) := by decide +kernel
theorem dX6_init_9 : decode cX6_init 9 = .ok (.putfield 9, 3) := by decide +kernel
theorem dX6_init_12 : decode cX6_init 12 = .ok (.return_, 1) := by decide +kernel
theorem dX6_size_0 : decode cX6_size 0 = .ok (.aload_n 0, 1) := by decide +kernel
theorem dX6_size_1 : decode cX6_size 1 = .ok (.getfield 15, 3) := by decide +kernel
theorem dX6_size_4 : decode cX6_size 4 = .ok (.ireturn, 1) := by decide +kernel
theorem dX6_empty_0 : decode cX6_empty 0 = .ok (.aload_n 0, 1) := by decide +kernel
theorem dX6_empty_1 : decode cX6_empty 1 = .ok (.iconst 0, 1) := by decide +kernel
theorem dX6_empty_2 : decode cX6_empty 2 = .ok (.putfield 15, 3) := by decide +kernel
theorem dX6_empty_5 : decode cX6_empty 5 = .ok (.return_, 1) := by decide +kernel
theorem dX6_addCharacter_0 : decode cX6_addCharacter 0 = .ok (.iload_n 1, 1) := by decide +kernel
theorem dX6_addCharacter_1 : decode cX6_addCharacter 1 = .ok (.iconst 1, 1) := by decide +kernel
theorem dX6_addCharacter_2 : decode cX6_addCharacter 2 = .ok (.if_icmp .lt 10, 3) := by decide +kernel
theorem dX6_addCharacter_5 : decode cX6_addCharacter 5 = .ok (.iload_n 1, 1) := by decide +kernel
theorem dX6_addCharacter_6 : decode cX6_addCharacter 6 = .ok (.sipush 255, 3) := by decide +kernel
theorem dX6_addCharacter_9 : decode cX6_addCharacter 9 = .ok (.if_icmp .le 5, 3) := by decide +kernel
theorem dX6_addCharacter_12 : decode cX6_addCharacter 12 = .ok (.iconst (-1), 1) := by decide +kernel
theorem dX6_addCharacter_13 : decode cX6_addCharacter 13 = .ok (.ireturn, 1) := by decide +kernel
theorem dX6_addCharacter_14 : decode cX6_addCharacter 14 = .ok (.aload_n 0, 1) := by decide +kernel
theorem dX6_addCharacter_15 : decode cX6_addCharacter 15 = .ok (.getfield 15, 3) := by decide +kernel
theorem dX6_addCharacter_18 : decode cX6_addCharacter 18 = .ok (.ifCond .lt 12, 3) := by decide +kernel
theorem dX6_addCharacter_21 : decode cX6_addCharacter 21 = .ok (.aload_n 0, 1) := by decide +kernel
theorem dX6_addCharacter_22 : decode cX6_addCharacter 22 = .ok (.getfield 15, 3) := by decide +kernel
theorem dX6_addCharacter_25 : decode cX6_addCharacter 25 = .ok (.bipush 80, 2) := by decide +kernel
theorem dX6_addCharacter_27 : decode cX6_addCharacter 27 = .ok (.if_icmp .lt 6, 3) := by decide +kernel
theorem dX6_addCharacter_30 : decode cX6_addCharacter 30 = .ok (.bipush (-3), 2) := by decide +kernel
theorem dX6_addCharacter_32 : decode cX6_addCharacter 32 = .ok (.ireturn, 1) := by decide +kernel
theorem dX6_addCharacter_33 : decode cX6_addCharacter 33 = .ok (.aload_n 0, 1) := by decide +kernel
theorem dX6_addCharacter_34 : decode cX6_addCharacter 34 = .ok (.getfield 9, 3) := by decide +kernel
theorem dX6_addCharacter_37 : decode cX6_addCharacter 37 = .ok (.aload_n 0, 1) := by decide +kernel
theorem dX6_addCharacter_38 : decode cX6_addCharacter 38 = .ok (.getfield 15, 3) := by decide +kernel
theorem dX6_addCharacter_41 : decode cX6_addCharacter 41 = .ok (.iload_n 1, 1) := by decide +kernel
theorem dX6_addCharacter_42 : decode cX6_addCharacter 42 = .ok (.iastore, 1) := by decide +kernel
theorem dX6_addCharacter_43 : decode cX6_addCharacter 43 = .ok (.aload_n 0, 1) := by decide +kernel
theorem dX6_addCharacter_44 : decode cX6_addCharacter 44 = .ok (.dup, 1) := by decide +kernel
theorem dX6_addCharacter_45 : decode cX6_addCharacter 45 = .ok (.getfield 15, 3) := by decide +kernel
theorem dX6_addCharacter_48 : decode cX6_addCharacter 48 = .ok (.iconst 1, 1) := by decide +kernel
theorem dX6_addCharacter_49 : decode cX6_addCharacter 49 = .ok (.iadd, 1) := by decide +kernel
theorem dX6_addCharacter_50 : decode cX6_addCharacter 50 = .ok (.putfield 15, 3) := by decide +kernel
theorem dX6_addCharacter_53 : decode cX6_addCharacter 53 = .ok (.aload_n 0, 1) := by decide +kernel
theorem dX6_addCharacter_54 : decode cX6_addCharacter 54 = .ok (.getfield 15, 3) := by decide +kernel
theorem dX6_addCharacter_57 : decode cX6_addCharacter 57 = .ok (.ireturn, 1) := by decide +kernel
theorem dX6_at_0 : decode cX6_at 0 = .ok (.iload_n 1, 1) := by decide +kernel
theorem dX6_at_1 : decode cX6_at 1 = .ok (.ifCond .lt 21, 3) := by decide +kernel
theorem dX6_at_4 : decode cX6_at 4 = .ok (.iload_n 1, 1) := by decide +kernel
theorem dX6_at_5 : decode cX6_at 5 = .ok (.aload_n 0, 1) := by decide +kernel
theorem dX6_at_6 : decode cX6_at 6 = .ok (.getfield 15, 3) := by decide +kernel
theorem dX6_at_9 : decode cX6_at 9 = .ok (.if_icmp .ge 13, 3) := by decide +kernel
theorem dX6_at_12 : decode cX6_at 12 = .ok (.iload_n 1, 1) := by decide +kernel
theorem dX6_at_13 : decode cX6_at 13 = .ok (.bipush 80, 2) := by decide +kernel
theorem dX6_at_15 : decode cX6_at 15 = .ok (.if_icmp .ge 7, 3) := by decide +kernel
theorem dX6_at_18 : decode cX6_at 18 = .ok (.iconst 1, 1) := by decide +kernel
theorem dX6_at_19 : decode cX6_at 19 = .ok (.goto 4, 3) := by decide +kernel
theorem dX6_at_22 : decode cX6_at 22 = .ok (.iconst 0, 1) := by decide +kernel
theorem dX6_at_23 : decode cX6_at 23 = .ok (.istore_n 2, 1) := by decide +kernel
theorem dX6_at_24 : decode cX6_at 24 = .ok (.iload_n 2, 1) := by decide +kernel
theorem dX6_at_25 : decode cX6_at 25 = .ok (.ifCond .eq 12, 3) := by decide +kernel
theorem dX6_at_28 : decode cX6_at 28 = .ok (.aload_n 0, 1) := by decide +kernel
theorem dX6_at_29 : decode cX6_at 29 = .ok (.getfield 9, 3) := by decide +kernel
theorem dX6_at_32 : decode cX6_at 32 = .ok (.iload_n 1, 1) := by decide +kernel
theorem dX6_at_33 : decode cX6_at 33 = .ok (.iaload, 1) := by decide +kernel
theorem dX6_at_34 : decode cX6_at 34 = .ok (.goto 4, 3) := by decide +kernel
theorem dX6_at_37 : decode cX6_at 37 = .ok (.iconst 0, 1) := by decide +kernel
theorem dX6_at_38 : decode cX6_at 38 = .ok (.ireturn, 1) := by decide +kernel
set_option maxRecDepth 20000 in
theorem ggX6_hasDigitAt_X6_at : GoodIn wsX6_hasDigitAt wsX6_at := goodIn_r _ [5, 6, 7, 8, 9] (by decide +kernel) (by decide +kernel)
set_option maxRecDepth 20000 in
theorem gX6_hasDigitAt_X6_at : GoodIn wsX6_hasDigitAt (wsV RX6 19 RX6 yX6_at wsX6_at) := goodIn_app (goodIn_of _ (by decide +kernel)) ggX6_hasDigitAt_X6_at
theorem dX6_hasDigitAt_0 : decode cX6_hasDigitAt 0 = .ok (.aload_n 0, 1) := by decide +kernel
theorem dX6_hasDigitAt_1 : decode cX6_hasDigitAt 1 = .ok (.iload_n 1, 1) := by decide +kernel
theorem dX6_hasDigitAt_2 : decode cX6_hasDigitAt 2 = .ok (.invokevirtual 19, 3) := by decide +kernel
theorem dX6_hasDigitAt_5 : decode cX6_hasDigitAt 5 = .ok (.bipush 48, 2) := by decide +kernel
theorem dX6_hasDigitAt_7 : decode cX6_hasDigitAt 7 = .ok (.if_icmp .lt 17, 3) := by decide +kernel
theorem dX6_hasDigitAt_10 : decode cX6_hasDigitAt 10 = .ok (.aload_n 0, 1) := by decide +kernel
theorem dX6_hasDigitAt_11 : decode cX6_hasDigitAt 11 = .ok (.iload_n 1, 1) := by decide +kernel
theorem dX6_hasDigitAt_12 : decode cX6_hasDigitAt 12 = .ok (.invokevirtual 19, 3) := by decide +kernel
theorem dX6_hasDigitAt_15 : decode cX6_hasDigitAt 15 = .ok (.bipush 57, 2) := by decide +kernel
theorem dX6_hasDigitAt_17 : decode cX6_hasDigitAt 17 = .ok (.if_icmp .gt 7, 3) := by decide +kernel
theorem dX6_hasDigitAt_20 : decode cX6_hasDigitAt 20 = .ok (.iconst 1, 1) := by decide +kernel
theorem dX6_hasDigitAt_21 : decode cX6_hasDigitAt 21 = .ok (.goto 4, 3) := by decide +kernel
theorem dX6_hasDigitAt_24 : decode cX6_hasDigitAt 24 = .ok (.iconst 0, 1) := by decide +kernel
theorem dX6_hasDigitAt_25 : decode cX6_hasDigitAt 25 = .ok (.ireturn, 1) := by decide +kernel
set_option maxRecDepth 20000 in
theorem ggX7_init_X5_init : GoodIn wsX7_init wsX5_init := goodIn_r _ [27, 28, 2, 3, 29, 30, 31, 32, 33, 34, 35, 36, 37, 38, 39, 40, 41, 42, 43, 44, 45, 46, 47, 48, 49, 50, 51, 52, 53, 54, 55, 56, 57, 80, 81, 82, 83, 84, 85, 86, 87, 88, 89, 108, 109, 110, 111, 112, 113, 114, 115] (by decide +kernel) (by decide +kernel)
set_option maxRecDepth 20000 in
theorem gX7_init_X5_init : GoodIn wsX7_init (wsX5_init) := ggX7_init_X5_init
set_option maxRecDepth 20000 in
theorem ggX7_init_X2_init : GoodIn wsX7_init wsX2_init := goodIn_r _ [60, 61, 2, 3, 62, 63, 5, 6, 64, 26, 27, 28, 29, 30, 31, 32, 33, 34, 35, 36, 37, 38, 39, 40, 41, 42, 43, 44, 45, 46, 47, 48, 49, 50, 51, 52, 53, 54, 55, 56, 57, 96, 97, 98, 80, 81, 82, 83, 84, 85, 86, 87, 88, 89, 108, 109, 110, 111, 112, 113, 114, 115] (by decide +kernel) (by decide +kernel)
set_option maxRecDepth 20000 in
theorem gX7_init_X2_init : GoodIn wsX7_init (wsX2_init) := ggX7_init_X2_init
set_option maxRecDepth 20000 in
theorem ggX7_init_X4_init : GoodIn wsX7_init wsX4_init := goodIn_r _ [66, 67, 2, 3, 68, 69, 29, 70, 71, 99, 100, 101, 102] (by decide +kernel) (by decide +kernel)
set_option maxRecDepth 20000 in
theorem gX7_init_X4_init_n28 : GoodIn wsX7_init (wsX4_init) := ggX7_init_X4_init
set_option maxRecDepth 20000 in
theorem ggX7_init_X6_init : GoodIn wsX7_init wsX6_init := goodIn_r _ [73, 74, 2, 3, 29, 75, 103, 104] (by decide +kernel) (by decide +kernel)
set_option maxRecDepth 20000 in
theorem gX7_init_X6_init_n35 : GoodIn wsX7_init (wsX6_init) := ggX7_init_X6_init
set_option maxRecDepth 20000 in
theorem ggX7_init_X1_init : GoodIn wsX7_init wsX1_init := goodIn_r _ [77, 78, 2, 3, 29, 79, 105, 106, 107] (by decide +kernel) (by decide +kernel)
set_option maxRecDepth 20000 in
theorem gX7_init_X1_init_n42 : GoodIn wsX7_init (wsX1_init) := ggX7_init_X1_init
theorem dX7_init_0 : decode cX7_init 0 = .ok (.aload_n 0, 1) := by decide +kernel
theorem dX7_init_1 : decode cX7_init 1 = .ok (.invokespecial 3, 3) := by decide +kernel
theorem dX7_init_4 : decode cX7_init 4 = .ok (.aload_n 0, 1) := by decide +kernel
theorem dX7_init_5 : decode cX7_init 5 = .ok (.new 9, 3) := by decide +kernel
theorem dX7_init_8 : decode cX7_init 8 = .ok (.dup, 1) := by decide +kernel
theorem dX7_init_9 : decode cX7_init 9 = .ok (.invokespecial 11, 3) := by decide +kernel
theorem dX7_init_12 : decode cX7_init 12 = .ok (.putfield 12, 3) := by decide +kernel
theorem dX7_init_15 : decode cX7_init 15 = .ok (.aload_n 0, 1) := by decide +kernel
theorem dX7_init_16 : decode cX7_init 16 = .ok (.new 9, 3) := by decide +kernel
theorem dX7_init_19 : decode cX7_init 19 = .ok (.dup, 1) := by decide +kernel
theorem dX7_init_20 : decode cX7_init 20 = .ok (.invokespecial 11, 3) := by decide +kernel
theorem dX7_init_23 : decode cX7_init 23 = .ok (.putfield 16, 3) := by decide +kernel
theorem dX7_init_26 : decode cX7_init 26 = .ok (.aload_n 0, 1) := by decide +kernel
theorem dX7_init_27 : decode cX7_init 27 = .ok (.new 19, 3) := by decide +kernel
theorem dX7_init_30 : decode cX7_init 30 = .ok (.dup, 1) := by decide +kernel
theorem dX7_init_31 : decode cX7_init 31 = .ok (.invokespecial 21, 3) := by decide +kernel
theorem dX7_init_34 : decode cX7_init 34 = .ok (.putfield 22, 3) := by decide +kernel
theorem dX7_init_37 : decode cX7_init 37 = .ok (.aload_n 0, 1) := by decide +kernel
theorem dX7_init_38 : decode cX7_init 38 = .ok (.new 26, 3) := by decide +kernel
theorem dX7_init_41 : decode cX7_init 41 = .ok (.dup, 1) := by decide +kernel
theorem dX7_init_42 : decode cX7_init 42 = .ok (.invokespecial 28, 3) := by decide +kernel
theorem dX7_init_45 : decode cX7_init 45 = .ok (.putfield 29, 3) := by decide +kernel
theorem dX7_init_48 : decode cX7_init 48 = .ok (.aload_n 0, 1) := by decide +kernel
theorem dX7_init_49 : decode cX7_init 49 = .ok (.new 33, 3) := by decide +kernel
theorem dX7_init_52 : decode cX7_init 52 = .ok (.dup, 1) := by decide +kernel
theorem dX7_init_53 : decode cX7_init 53 = .ok (.invokespecial 35, 3) := by decide +kernel
theorem dX7_init_56 : decode cX7_init 56 = .ok (.putfield 36, 3) := by decide +kernel
theorem dX7_init_59 : decode cX7_init 59 = .ok (.aload_n 0, 1) := by decide +kernel
theorem dX7_init_60 : decode cX7_init 60 = .ok (.new 40, 3) := by decide +kernel
theorem dX7_init_63 : decode cX7_init 63 = .ok (.dup, 1) := by decide +kernel
theorem dX7_init_64 : decode cX7_init 64 = .ok (.invokespecial 42, 3) := by decide +kernel
theorem dX7_init_67 : decode cX7_init 67 = .ok (.putfield 43, 3) := by decide +kernel
theorem dX7_init_70 : decode cX7_init 70 = .ok (.return_, 1) := by decide +kernel
set_option maxRecDepth 20000 in
theorem ggX7_setHeavy_X2_draft : GoodIn wsX7_setHeavy wsX2_draft := goodIn_r _ [7, 8, 9, 10, 11, 6, 12, 13, 14, 15, 16, 17, 18, 19, 20, 21, 22, 23, 24, 25, 26, 27, 28, 29, 30, 31, 32, 33, 34, 35, 36, 37, 38, 39, 40, 41, 42, 43, 44, 45, 46, 47, 48, 49, 50, 51, 52, 53, 54, 55, 56, 57, 77, 78, 79, 80, 81, 82, 83, 84, 85, 86, 87, 88, 89, 90, 91, 92, 93, 94, 95, 96, 97] (by decide +kernel) (by decide +kernel)
set_option maxRecDepth 20000 in
theorem gX7_setHeavy_X2_draft : GoodIn wsX7_setHeavy (wsV RX7 47 RX2 yX2_draft wsX2_draft) := goodIn_app (goodIn_of _ (by decide +kernel)) ggX7_setHeavy_X2_draft
set_option maxRecDepth 20000 in
theorem ggX7_setHeavy_X5_changeBound : GoodIn wsX7_setHeavy wsX5_changeBound := goodIn_r _ [61, 31, 80, 81, 82, 83, 84, 85, 86, 87, 88, 89] (by decide +kernel) (by decide +kernel)
set_option maxRecDepth 20000 in
theorem gX7_setHeavy_X5_changeBound : GoodIn wsX7_setHeavy (wsV RX7 51 RX5 yX5_changeBound wsX5_changeBound) := goodIn_app (goodIn_of _ (by decide +kernel)) ggX7_setHeavy_X5_changeBound
set_option maxRecDepth 20000 in
theorem ggX7_setHeavy_X7_recorded : GoodIn wsX7_setHeavy wsX7_recorded := goodIn_r _ [66, 1, 67, 68, 69, 6, 70, 14, 13, 15, 16, 17, 18, 71, 72, 73, 74, 75, 76, 77, 78, 79] (by decide +kernel) (by decide +kernel)
set_option maxRecDepth 20000 in
theorem gX7_setHeavy_X7_recorded : GoodIn wsX7_setHeavy (wsV RX7 55 RX7 yX7_recorded wsX7_recorded) := goodIn_app (goodIn_of _ (by decide +kernel)) ggX7_setHeavy_X7_recorded
theorem dX7_setHeavy_0 : decode cX7_setHeavy 0 = .ok (.aload_n 0, 1) := by decide +kernel
theorem dX7_setHeavy_1 : decode cX7_setHeavy 1 = .ok (.getfield 22, 3) := by decide +kernel
theorem dX7_setHeavy_4 : decode cX7_setHeavy 4 = .ok (.aload_n 0, 1) := by decide +kernel
theorem dX7_setHeavy_5 : decode cX7_setHeavy 5 = .ok (.getfield 12, 3) := by decide +kernel
theorem dX7_setHeavy_8 : decode cX7_setHeavy 8 = .ok (.invokevirtual 47, 3) := by decide +kernel
theorem dX7_setHeavy_11 : decode cX7_setHeavy 11 = .ok (.aload_n 0, 1) := by decide +kernel
theorem dX7_setHeavy_12 : decode cX7_setHeavy 12 = .ok (.aload_n 0, 1) := by decide +kernel
theorem dX7_setHeavy_13 : decode cX7_setHeavy 13 = .ok (.getfield 12, 3) := by decide +kernel
theorem dX7_setHeavy_16 : decode cX7_setHeavy 16 = .ok (.iload_n 1, 1) := by decide +kernel
theorem dX7_setHeavy_17 : decode cX7_setHeavy 17 = .ok (.invokevirtual 51, 3) := by decide +kernel
theorem dX7_setHeavy_20 : decode cX7_setHeavy 20 = .ok (.invokevirtual 55, 3) := by decide +kernel
theorem dX7_setHeavy_23 : decode cX7_setHeavy 23 = .ok (.ireturn, 1) := by decide +kernel
set_option maxRecDepth 20000 in
theorem ggX7_make_X2_draft : GoodIn wsX7_make wsX2_draft := goodIn_r _ [7, 8, 9, 10, 11, 6, 12, 13, 14, 15, 16, 17, 18, 19, 20, 21, 22, 23, 24, 25, 26, 27, 28, 29, 30, 31, 32, 33, 34, 35, 36, 37, 38, 39, 40, 41, 42, 43, 44, 45, 46, 47, 48, 49, 50, 51, 52, 53, 54, 55, 56, 57, 120, 121, 122, 123, 124, 125, 126, 127, 128, 129, 130, 131, 132, 133, 134, 135, 136, 137, 138, 139, 140] (by decide +kernel) (by decide +kernel)
set_option maxRecDepth 20000 in
theorem gX7_make_X2_draft : GoodIn wsX7_make (wsV RX7 47 RX2 yX2_draft wsX2_draft) := goodIn_app (goodIn_of _ (by decide +kernel)) ggX7_make_X2_draft
set_option maxRecDepth 20000 in
theorem ggX7_make_X5_makeThing : GoodIn wsX7_make wsX5_makeThing := goodIn_r _ [61, 31, 29, 32, 35, 33, 24, 62, 63, 64, 65, 66, 67, 41, 68, 69, 70, 71, 72, 45, 73, 74, 75, 76, 77, 78, 79, 22, 80, 34, 81, 82, 83, 84, 85, 86, 87, 88, 89, 90, 91, 92, 93, 94, 95, 96, 46, 97, 98, 99, 100, 101, 43, 47, 48, 102, 103, 104, 105, 123, 124, 125, 126, 127, 128, 129, 130, 131, 132, 133, 134, 135, 136, 137] (by decide +kernel) (by decide +kernel)
set_option maxRecDepth 20000 in
theorem gX7_make_X5_makeThing : GoodIn wsX7_make (wsV RX7 58 RX5 yX5_makeThing wsX5_makeThing) := goodIn_app (goodIn_of _ (by decide +kernel)) ggX7_make_X5_makeThing
set_option maxRecDepth 20000 in
theorem ggX7_make_X7_recorded : GoodIn wsX7_make wsX7_recorded := goodIn_r _ [109, 1, 110, 111, 112, 6, 113, 14, 13, 15, 16, 17, 18, 114, 115, 116, 117, 118, 119, 120, 121, 122] (by decide +kernel) (by decide +kernel)
set_option maxRecDepth 20000 in
theorem gX7_make_X7_recorded : GoodIn wsX7_make (wsV RX7 55 RX7 yX7_recorded wsX7_recorded) := goodIn_app (goodIn_of _ (by decide +kernel)) ggX7_make_X7_recorded
theorem dX7_make_0 : decode cX7_make 0 = .ok (.aload_n 0, 1) := by decide +kernel
theorem dX7_make_1 : decode cX7_make 1 = .ok (.getfield 22, 3) := by decide +kernel
theorem dX7_make_4 : decode cX7_make 4 = .ok (.aload_n 0, 1) := by decide +kernel
theorem dX7_make_5 : decode cX7_make 5 = .ok (.getfield 12, 3) := by decide +kernel
theorem dX7_make_8 : decode cX7_make 8 = .ok (.invokevirtual 47, 3) := by decide +kernel
theorem dX7_make_11 : decode cX7_make 11 = .ok (.aload_n 0, 1) := by decide +kernel
theorem dX7_make_12 : decode cX7_make 12 = .ok (.aload_n 0, 1) := by decide +kernel
theorem dX7_make_13 : decode cX7_make 13 = .ok (.getfield 12, 3) := by decide +kernel
theorem dX7_make_16 : decode cX7_make 16 = .ok (.iload_n 1, 1) := by decide +kernel
theorem dX7_make_17 : decode cX7_make 17 = .ok (.iload_n 2, 1) := by decide +kernel
theorem dX7_make_18 : decode cX7_make 18 = .ok (.invokevirtual 58, 3) := by decide +kernel
theorem dX7_make_21 : decode cX7_make 21 = .ok (.invokevirtual 55, 3) := by decide +kernel
theorem dX7_make_24 : decode cX7_make 24 = .ok (.ireturn, 1) := by decide +kernel
set_option maxRecDepth 20000 in
theorem ggX7_link_X2_draft : GoodIn wsX7_link wsX2_draft := goodIn_r _ [7, 8, 9, 10, 11, 6, 12, 13, 14, 15, 16, 17, 18, 19, 20, 21, 22, 23, 24, 25, 26, 27, 28, 29, 30, 31, 32, 33, 34, 35, 36, 37, 38, 39, 40, 41, 42, 43, 44, 45, 46, 47, 48, 49, 50, 51, 52, 53, 54, 55, 56, 57, 129, 130, 131, 132, 133, 134, 135, 136, 137, 138, 139, 140, 141, 142, 143, 144, 145, 146, 147, 148, 149] (by decide +kernel) (by decide +kernel)
set_option maxRecDepth 20000 in
theorem gX7_link_X2_draft : GoodIn wsX7_link (wsV RX7 47 RX2 yX2_draft wsX2_draft) := goodIn_app (goodIn_of _ (by decide +kernel)) ggX7_link_X2_draft
set_option maxRecDepth 20000 in
theorem ggX7_link_X5_linkHooks : GoodIn wsX7_link wsX5_linkHooks := goodIn_r _ [61, 24, 29, 62, 63, 64, 65, 66, 67, 68, 69, 22, 70, 33, 30, 71, 72, 73, 74, 34, 75, 76, 77, 78, 79, 80, 81, 41, 82, 46, 83, 84, 85, 86, 45, 87, 88, 89, 90, 91, 92, 93, 94, 35, 95, 96, 97, 98, 99, 100, 101, 102, 43, 47, 48, 103, 104, 105, 52, 106, 57, 54, 107, 108, 109, 110, 111, 112, 113, 114, 132, 133, 134, 135, 136, 137, 138, 139, 140, 141, 142, 143, 144, 145, 146, 147, 148, 149] (by decide +kernel) (by decide +kernel)
set_option maxRecDepth 20000 in
theorem gX7_link_X5_linkHooks : GoodIn wsX7_link (wsV RX7 62 RX5 yX5_linkHooks wsX5_linkHooks) := goodIn_app (goodIn_of _ (by decide +kernel)) ggX7_link_X5_linkHooks
set_option maxRecDepth 20000 in
theorem ggX7_link_X7_recorded : GoodIn wsX7_link wsX7_recorded := goodIn_r _ [118, 1, 119, 120, 121, 6, 122, 14, 13, 15, 16, 17, 18, 123, 124, 125, 126, 127, 128, 129, 130, 131] (by decide +kernel) (by decide +kernel)
set_option maxRecDepth 20000 in
theorem gX7_link_X7_recorded : GoodIn wsX7_link (wsV RX7 55 RX7 yX7_recorded wsX7_recorded) := goodIn_app (goodIn_of _ (by decide +kernel)) ggX7_link_X7_recorded
theorem dX7_link_0 : decode cX7_link 0 = .ok (.aload_n 0, 1) := by decide +kernel
theorem dX7_link_1 : decode cX7_link 1 = .ok (.getfield 22, 3) := by decide +kernel
theorem dX7_link_4 : decode cX7_link 4 = .ok (.aload_n 0, 1) := by decide +kernel
theorem dX7_link_5 : decode cX7_link 5 = .ok (.getfield 12, 3) := by decide +kernel
theorem dX7_link_8 : decode cX7_link 8 = .ok (.invokevirtual 47, 3) := by decide +kernel
theorem dX7_link_11 : decode cX7_link 11 = .ok (.aload_n 0, 1) := by decide +kernel
theorem dX7_link_12 : decode cX7_link 12 = .ok (.aload_n 0, 1) := by decide +kernel
theorem dX7_link_13 : decode cX7_link 13 = .ok (.getfield 12, 3) := by decide +kernel
theorem dX7_link_16 : decode cX7_link 16 = .ok (.iload_n 1, 1) := by decide +kernel
theorem dX7_link_17 : decode cX7_link 17 = .ok (.iload_n 2, 1) := by decide +kernel
theorem dX7_link_18 : decode cX7_link 18 = .ok (.iload_n 3, 1) := by decide +kernel
theorem dX7_link_19 : decode cX7_link 19 = .ok (.invokevirtual 62, 3) := by decide +kernel
theorem dX7_link_22 : decode cX7_link 22 = .ok (.invokevirtual 55, 3) := by decide +kernel
theorem dX7_link_25 : decode cX7_link 25 = .ok (.ireturn, 1) := by decide +kernel
set_option maxRecDepth 20000 in
theorem ggX7_follow_X2_draft : GoodIn wsX7_follow wsX2_draft := goodIn_r _ [7, 8, 9, 10, 11, 6, 12, 13, 14, 15, 16, 17, 18, 19, 20, 21, 22, 23, 24, 25, 26, 27, 28, 29, 30, 31, 32, 33, 34, 35, 36, 37, 38, 39, 40, 41, 42, 43, 44, 45, 46, 47, 48, 49, 50, 51, 52, 53, 54, 55, 56, 57, 125, 126, 127, 128, 129, 130, 131, 132, 133, 134, 135, 136, 137, 138, 139, 140, 141, 142, 143, 144, 145] (by decide +kernel) (by decide +kernel)
set_option maxRecDepth 20000 in
theorem gX7_follow_X2_draft : GoodIn wsX7_follow (wsV RX7 47 RX2 yX2_draft wsX2_draft) := goodIn_app (goodIn_of _ (by decide +kernel)) ggX7_follow_X2_draft
set_option maxRecDepth 20000 in
theorem ggX7_follow_X5_followName : GoodIn wsX7_follow wsX5_followName := goodIn_r _ [61, 24, 29, 62, 63, 64, 65, 66, 67, 68, 69, 22, 70, 33, 30, 71, 72, 73, 74, 34, 75, 76, 77, 78, 79, 80, 81, 41, 82, 46, 83, 84, 85, 86, 45, 87, 88, 89, 90, 91, 92, 93, 94, 35, 95, 96, 97, 98, 99, 100, 101, 102, 43, 47, 48, 103, 104, 105, 52, 106, 57, 54, 107, 108, 109, 110, 128, 129, 130, 131, 132, 133, 134, 135, 136, 137, 138, 139, 140, 141, 142, 143, 144, 145] (by decide +kernel) (by decide +kernel)
set_option maxRecDepth 20000 in
theorem gX7_follow_X5_followName : GoodIn wsX7_follow (wsV RX7 66 RX5 yX5_followName wsX5_followName) := goodIn_app (goodIn_of _ (by decide +kernel)) ggX7_follow_X5_followName
set_option maxRecDepth 20000 in
theorem ggX7_follow_X7_recorded : GoodIn wsX7_follow wsX7_recorded := goodIn_r _ [114, 1, 115, 116, 117, 6, 118, 14, 13, 15, 16, 17, 18, 119, 120, 121, 122, 123, 124, 125, 126, 127] (by decide +kernel) (by decide +kernel)
set_option maxRecDepth 20000 in
theorem gX7_follow_X7_recorded : GoodIn wsX7_follow (wsV RX7 55 RX7 yX7_recorded wsX7_recorded) := goodIn_app (goodIn_of _ (by decide +kernel)) ggX7_follow_X7_recorded
theorem dX7_follow_0 : decode cX7_follow 0 = .ok (.aload_n 0, 1) := by decide +kernel
theorem dX7_follow_1 : decode cX7_follow 1 = .ok (.getfield 22, 3) := by decide +kernel
theorem dX7_follow_4 : decode cX7_follow 4 = .ok (.aload_n 0, 1) := by decide +kernel
theorem dX7_follow_5 : decode cX7_follow 5 = .ok (.getfield 12, 3) := by decide +kernel
theorem dX7_follow_8 : decode cX7_follow 8 = .ok (.invokevirtual 47, 3) := by decide +kernel
theorem dX7_follow_11 : decode cX7_follow 11 = .ok (.aload_n 0, 1) := by decide +kernel
theorem dX7_follow_12 : decode cX7_follow 12 = .ok (.aload_n 0, 1) := by decide +kernel
theorem dX7_follow_13 : decode cX7_follow 13 = .ok (.getfield 12, 3) := by decide +kernel
theorem dX7_follow_16 : decode cX7_follow 16 = .ok (.iload_n 1, 1) := by decide +kernel
theorem dX7_follow_17 : decode cX7_follow 17 = .ok (.iload_n 2, 1) := by decide +kernel
theorem dX7_follow_18 : decode cX7_follow 18 = .ok (.iload_n 3, 1) := by decide +kernel
theorem dX7_follow_19 : decode cX7_follow 19 = .ok (.invokevirtual 66, 3) := by decide +kernel
theorem dX7_follow_22 : decode cX7_follow 22 = .ok (.invokevirtual 55, 3) := by decide +kernel
theorem dX7_follow_25 : decode cX7_follow 25 = .ok (.ireturn, 1) := by decide +kernel
set_option maxRecDepth 20000 in
theorem ggX7_drop_X2_draft : GoodIn wsX7_drop wsX2_draft := goodIn_r _ [7, 8, 9, 10, 11, 6, 12, 13, 14, 15, 16, 17, 18, 19, 20, 21, 22, 23, 24, 25, 26, 27, 28, 29, 30, 31, 32, 33, 34, 35, 36, 37, 38, 39, 40, 41, 42, 43, 44, 45, 46, 47, 48, 49, 50, 51, 52, 53, 54, 55, 56, 57, 79, 80, 81, 82, 83, 84, 85, 86, 87, 88, 89, 90, 91, 92, 93, 94, 95, 96, 97, 98, 99] (by decide +kernel) (by decide +kernel)
set_option maxRecDepth 20000 in
theorem gX7_drop_X2_draft : GoodIn wsX7_drop (wsV RX7 47 RX2 yX2_draft wsX2_draft) := goodIn_app (goodIn_of _ (by decide +kernel)) ggX7_drop_X2_draft
set_option maxRecDepth 20000 in
theorem ggX7_drop_X5_dropHook : GoodIn wsX7_drop wsX5_dropHook := goodIn_r _ [61, 24, 62, 63, 64, 82, 83, 84, 85, 86, 87, 88, 89, 90, 91] (by decide +kernel) (by decide +kernel)
set_option maxRecDepth 20000 in
theorem gX7_drop_X5_dropHook : GoodIn wsX7_drop (wsV RX7 69 RX5 yX5_dropHook wsX5_dropHook) := goodIn_app (goodIn_of _ (by decide +kernel)) ggX7_drop_X5_dropHook
set_option maxRecDepth 20000 in
theorem ggX7_drop_X7_recorded : GoodIn wsX7_drop wsX7_recorded := goodIn_r _ [68, 1, 69, 70, 71, 6, 72, 14, 13, 15, 16, 17, 18, 73, 74, 75, 76, 77, 78, 79, 80, 81] (by decide +kernel) (by decide +kernel)
set_option maxRecDepth 20000 in
theorem gX7_drop_X7_recorded : GoodIn wsX7_drop (wsV RX7 55 RX7 yX7_recorded wsX7_recorded) := goodIn_app (goodIn_of _ (by decide +kernel)) ggX7_drop_X7_recorded
theorem dX7_drop_0 : decode cX7_drop 0 = .ok (.aload_n 0, 1) := by decide +kernel
theorem dX7_drop_1 : decode cX7_drop 1 = .ok (.getfield 22, 3) := by decide +kernel
theorem dX7_drop_4 : decode cX7_drop 4 = .ok (.aload_n 0, 1) := by decide +kernel
theorem dX7_drop_5 : decode cX7_drop 5 = .ok (.getfield 12, 3) := by decide +kernel
theorem dX7_drop_8 : decode cX7_drop 8 = .ok (.invokevirtual 47, 3) := by decide +kernel
theorem dX7_drop_11 : decode cX7_drop 11 = .ok (.aload_n 0, 1) := by decide +kernel
theorem dX7_drop_12 : decode cX7_drop 12 = .ok (.aload_n 0, 1) := by decide +kernel
theorem dX7_drop_13 : decode cX7_drop 13 = .ok (.getfield 12, 3) := by decide +kernel
theorem dX7_drop_16 : decode cX7_drop 16 = .ok (.iload_n 1, 1) := by decide +kernel
theorem dX7_drop_17 : decode cX7_drop 17 = .ok (.invokevirtual 69, 3) := by decide +kernel
theorem dX7_drop_20 : decode cX7_drop 20 = .ok (.invokevirtual 55, 3) := by decide +kernel
theorem dX7_drop_23 : decode cX7_drop 23 = .ok (.ireturn, 1) := by decide +kernel
set_option maxRecDepth 20000 in
theorem ggX7_begin_X2_draft : GoodIn wsX7_begin wsX2_draft := goodIn_r _ [7, 8, 9, 10, 11, 6, 12, 13, 14, 15, 16, 17, 18, 19, 20, 21, 22, 23, 24, 25, 26, 27, 28, 29, 30, 31, 32, 33, 34, 35, 36, 37, 38, 39, 40, 41, 42, 43, 44, 45, 46, 47, 48, 49, 50, 51, 52, 53, 54, 55, 56, 57, 145, 146, 147, 148, 149, 150, 151, 152, 153, 154, 155, 156, 157, 158, 159, 160, 161, 162, 163, 164, 165] (by decide +kernel) (by decide +kernel)
set_option maxRecDepth 20000 in
theorem gX7_begin_X2_draft : GoodIn wsX7_begin (wsV RX7 47 RX2 yX2_draft wsX2_draft) := goodIn_app (goodIn_of _ (by decide +kernel)) ggX7_begin_X2_draft
set_option maxRecDepth 20000 in
theorem ggX7_begin_X5_beginMove : GoodIn wsX7_begin wsX5_beginMove := goodIn_r _ [61, 33, 34, 35, 30, 24, 62, 63, 64, 52, 65, 56, 57, 66, 67, 68, 22, 69, 29, 70, 71, 72, 73, 74, 75, 76, 77, 78, 79, 80, 41, 81, 46, 82, 83, 84, 85, 45, 86, 87, 88, 89, 90, 91, 92, 93, 94, 95, 96, 97, 98, 99, 100, 101, 43, 47, 48, 102, 103, 104, 105, 54, 106, 107, 108, 109, 110, 111, 112, 113, 114, 115, 116, 117, 37, 118, 119, 120, 121, 122, 123, 124, 125, 126, 127, 128, 129, 148, 149, 150, 151, 152, 153, 154, 155, 156, 157, 163, 164, 165, 158, 159, 160, 161, 162] (by decide +kernel) (by decide +kernel)
set_option maxRecDepth 20000 in
theorem gX7_begin_X5_beginMove : GoodIn wsX7_begin (wsV RX7 72 RX5 yX5_beginMove wsX5_beginMove) := goodIn_app (goodIn_of _ (by decide +kernel)) ggX7_begin_X5_beginMove
set_option maxRecDepth 20000 in
theorem ggX7_begin_X7_recorded : GoodIn wsX7_begin wsX7_recorded := goodIn_r _ [134, 1, 135, 136, 137, 6, 138, 14, 13, 15, 16, 17, 18, 139, 140, 141, 142, 143, 144, 145, 146, 147] (by decide +kernel) (by decide +kernel)
set_option maxRecDepth 20000 in
theorem gX7_begin_X7_recorded : GoodIn wsX7_begin (wsV RX7 55 RX7 yX7_recorded wsX7_recorded) := goodIn_app (goodIn_of _ (by decide +kernel)) ggX7_begin_X7_recorded
theorem dX7_begin_0 : decode cX7_begin 0 = .ok (.aload_n 0, 1) := by decide +kernel
theorem dX7_begin_1 : decode cX7_begin 1 = .ok (.getfield 22, 3) := by decide +kernel
theorem dX7_begin_4 : decode cX7_begin 4 = .ok (.aload_n 0, 1) := by decide +kernel
theorem dX7_begin_5 : decode cX7_begin 5 = .ok (.getfield 12, 3) := by decide +kernel
theorem dX7_begin_8 : decode cX7_begin 8 = .ok (.invokevirtual 47, 3) := by decide +kernel
theorem dX7_begin_11 : decode cX7_begin 11 = .ok (.aload_n 0, 1) := by decide +kernel
theorem dX7_begin_12 : decode cX7_begin 12 = .ok (.aload_n 0, 1) := by decide +kernel
theorem dX7_begin_13 : decode cX7_begin 13 = .ok (.getfield 12, 3) := by decide +kernel
theorem dX7_begin_16 : decode cX7_begin 16 = .ok (.invokevirtual 72, 3) := by decide +kernel
theorem dX7_begin_19 : decode cX7_begin 19 = .ok (.invokevirtual 55, 3) := by decide +kernel
theorem dX7_begin_22 : decode cX7_begin 22 = .ok (.ireturn, 1) := by decide +kernel
set_option maxRecDepth 20000 in
theorem ggX7_carry_X2_draft : GoodIn wsX7_carry wsX2_draft := goodIn_r _ [7, 8, 9, 10, 11, 6, 12, 13, 14, 15, 16, 17, 18, 19, 20, 21, 22, 23, 24, 25, 26, 27, 28, 29, 30, 31, 32, 33, 34, 35, 36, 37, 38, 39, 40, 41, 42, 43, 44, 45, 46, 47, 48, 49, 50, 51, 52, 53, 54, 55, 56, 57, 149, 150, 151, 152, 153, 154, 155, 156, 157, 158, 159, 160, 161, 162, 163, 164, 165, 166, 167, 168, 169] (by decide +kernel) (by decide +kernel)
set_option maxRecDepth 20000 in
theorem gX7_carry_X2_draft : GoodIn wsX7_carry (wsV RX7 47 RX2 yX2_draft wsX2_draft) := goodIn_app (goodIn_of _ (by decide +kernel)) ggX7_carry_X2_draft
set_option maxRecDepth 20000 in
theorem ggX7_carry_X5_carrySteps : GoodIn wsX7_carry wsX5_carrySteps := goodIn_r _ [61, 33, 62, 63, 64, 22, 65, 30, 29, 66, 67, 68, 52, 69, 56, 57, 54, 70, 71, 72, 73, 74, 75, 76, 77, 34, 78, 79, 80, 81, 82, 83, 84, 41, 85, 46, 86, 87, 88, 89, 45, 90, 91, 92, 93, 94, 95, 96, 97, 35, 98, 99, 100, 101, 102, 103, 104, 105, 43, 47, 48, 106, 107, 108, 109, 110, 111, 112, 113, 114, 115, 116, 117, 118, 119, 120, 121, 37, 122, 123, 124, 125, 126, 127, 128, 129, 130, 131, 132, 133, 152, 153, 154, 155, 156, 157, 158, 159, 160, 161, 162, 163, 164, 165, 166, 167, 168, 169] (by decide +kernel) (by decide +kernel)
set_option maxRecDepth 20000 in
theorem gX7_carry_X5_carrySteps : GoodIn wsX7_carry (wsV RX7 76 RX5 yX5_carrySteps wsX5_carrySteps) := goodIn_app (goodIn_of _ (by decide +kernel)) ggX7_carry_X5_carrySteps
set_option maxRecDepth 20000 in
theorem ggX7_carry_X7_recorded : GoodIn wsX7_carry wsX7_recorded := goodIn_r _ [138, 1, 139, 140, 141, 6, 142, 14, 13, 15, 16, 17, 18, 143, 144, 145, 146, 147, 148, 149, 150, 151] (by decide +kernel) (by decide +kernel)
set_option maxRecDepth 20000 in
theorem gX7_carry_X7_recorded : GoodIn wsX7_carry (wsV RX7 55 RX7 yX7_recorded wsX7_recorded) := goodIn_app (goodIn_of _ (by decide +kernel)) ggX7_carry_X7_recorded
theorem dX7_carry_0 : decode cX7_carry 0 = .ok (.aload_n 0, 1) := by decide +kernel
theorem dX7_carry_1 : decode cX7_carry 1 = .ok (.getfield 22, 3) := by decide +kernel
theorem dX7_carry_4 : decode cX7_carry 4 = .ok (.aload_n 0, 1) := by decide +kernel
theorem dX7_carry_5 : decode cX7_carry 5 = .ok (.getfield 12, 3) := by decide +kernel
theorem dX7_carry_8 : decode cX7_carry 8 = .ok (.invokevirtual 47, 3) := by decide +kernel
theorem dX7_carry_11 : decode cX7_carry 11 = .ok (.aload_n 0, 1) := by decide +kernel
theorem dX7_carry_12 : decode cX7_carry 12 = .ok (.aload_n 0, 1) := by decide +kernel
theorem dX7_carry_13 : decode cX7_carry 13 = .ok (.getfield 12, 3) := by decide +kernel
theorem dX7_carry_16 : decode cX7_carry 16 = .ok (.iload_n 1, 1) := by decide +kernel
theorem dX7_carry_17 : decode cX7_carry 17 = .ok (.invokevirtual 76, 3) := by decide +kernel
theorem dX7_carry_20 : decode cX7_carry 20 = .ok (.invokevirtual 55, 3) := by decide +kernel
theorem dX7_carry_23 : decode cX7_carry 23 = .ok (.ireturn, 1) := by decide +kernel
set_option maxRecDepth 20000 in
theorem ggX7_lose_X2_draft : GoodIn wsX7_lose wsX2_draft := goodIn_r _ [7, 8, 9, 10, 11, 6, 12, 13, 14, 15, 16, 17, 18, 19, 20, 21, 22, 23, 24, 25, 26, 27, 28, 29, 30, 31, 32, 33, 34, 35, 36, 37, 38, 39, 40, 41, 42, 43, 44, 45, 46, 47, 48, 49, 50, 51, 52, 53, 54, 55, 56, 57, 117, 118, 119, 120, 121, 122, 123, 124, 125, 126, 127, 128, 129, 130, 131, 132, 133, 134, 135, 136, 137] (by decide +kernel) (by decide +kernel)
set_option maxRecDepth 20000 in
theorem gX7_lose_X2_draft : GoodIn wsX7_lose (wsV RX7 47 RX2 yX2_draft wsX2_draft) := goodIn_app (goodIn_of _ (by decide +kernel)) ggX7_lose_X2_draft
set_option maxRecDepth 20000 in
theorem ggX7_lose_X5_loseNote : GoodIn wsX7_lose wsX5_loseNote := goodIn_r _ [61, 29, 36, 62, 63, 64, 22, 65, 32, 66, 67, 68, 69, 70, 71, 72, 41, 73, 43, 74, 75, 76, 77, 45, 78, 79, 80, 81, 46, 82, 83, 84, 85, 35, 86, 87, 88, 89, 34, 33, 90, 91, 92, 93, 94, 95, 96, 97, 98, 99, 100, 101, 120, 121, 122, 123, 124, 125, 126, 127, 128, 129, 130, 131, 132, 133, 134] (by decide +kernel) (by decide +kernel)
set_option maxRecDepth 20000 in
theorem gX7_lose_X5_loseNote : GoodIn wsX7_lose (wsV RX7 79 RX5 yX5_loseNote wsX5_loseNote) := goodIn_app (goodIn_of _ (by decide +kernel)) ggX7_lose_X5_loseNote
set_option maxRecDepth 20000 in
theorem ggX7_lose_X7_recorded : GoodIn wsX7_lose wsX7_recorded := goodIn_r _ [106, 1, 107, 108, 109, 6, 110, 14, 13, 15, 16, 17, 18, 111, 112, 113, 114, 115, 116, 117, 118, 119] (by decide +kernel) (by decide +kernel)
set_option maxRecDepth 20000 in
theorem gX7_lose_X7_recorded : GoodIn wsX7_lose (wsV RX7 55 RX7 yX7_recorded wsX7_recorded) := goodIn_app (goodIn_of _ (by decide +kernel)) ggX7_lose_X7_recorded
theorem dX7_lose_0 : decode cX7_lose 0 = .ok (.aload_n 0, 1) := by decide +kernel
theorem dX7_lose_1 : decode cX7_lose 1 = .ok (.getfield 22, 3) := by decide +kernel
theorem dX7_lose_4 : decode cX7_lose 4 = .ok (.aload_n 0, 1) := by decide +kernel
theorem dX7_lose_5 : decode cX7_lose 5 = .ok (.getfield 12, 3) := by decide +kernel
theorem dX7_lose_8 : decode cX7_lose 8 = .ok (.invokevirtual 47, 3) := by decide +kernel
theorem dX7_lose_11 : decode cX7_lose 11 = .ok (.aload_n 0, 1) := by decide +kernel
theorem dX7_lose_12 : decode cX7_lose 12 = .ok (.aload_n 0, 1) := by decide +kernel
theorem dX7_lose_13 : decode cX7_lose 13 = .ok (.getfield 12, 3) := by decide +kernel
theorem dX7_lose_16 : decode cX7_lose 16 = .ok (.iload_n 1, 1) := by decide +kernel
theorem dX7_lose_17 : decode cX7_lose 17 = .ok (.invokevirtual 79, 3) := by decide +kernel
theorem dX7_lose_20 : decode cX7_lose 20 = .ok (.invokevirtual 55, 3) := by decide +kernel
theorem dX7_lose_23 : decode cX7_lose 23 = .ok (.ireturn, 1) := by decide +kernel
set_option maxRecDepth 20000 in
theorem ggX7_mend_X2_draft : GoodIn wsX7_mend wsX2_draft := goodIn_r _ [7, 8, 9, 10, 11, 6, 12, 13, 14, 15, 16, 17, 18, 19, 20, 21, 22, 23, 24, 25, 26, 27, 28, 29, 30, 31, 32, 33, 34, 35, 36, 37, 38, 39, 40, 41, 42, 43, 44, 45, 46, 47, 48, 49, 50, 51, 52, 53, 54, 55, 56, 57, 118, 119, 120, 121, 122, 123, 124, 125, 126, 127, 128, 129, 130, 131, 132, 133, 134, 135, 136, 137, 138] (by decide +kernel) (by decide +kernel)
set_option maxRecDepth 20000 in
theorem gX7_mend_X2_draft : GoodIn wsX7_mend (wsV RX7 47 RX2 yX2_draft wsX2_draft) := goodIn_app (goodIn_of _ (by decide +kernel)) ggX7_mend_X2_draft
set_option maxRecDepth 20000 in
theorem ggX7_mend_X5_mendTwins : GoodIn wsX7_mend wsX5_mendTwins := goodIn_r _ [61, 33, 29, 62, 63, 64, 22, 65, 32, 66, 67, 68, 69, 70, 71, 72, 41, 73, 43, 74, 75, 76, 77, 45, 78, 79, 80, 81, 34, 82, 83, 84, 85, 86, 87, 88, 89, 90, 91, 92, 93, 94, 95, 96, 97, 98, 48, 99, 100, 101, 102, 24, 121, 122, 123, 124, 125, 126, 127, 128, 129, 130, 131, 132, 133, 134, 135] (by decide +kernel) (by decide +kernel)
set_option maxRecDepth 20000 in
theorem gX7_mend_X5_mendTwins : GoodIn wsX7_mend (wsV RX7 82 RX5 yX5_mendTwins wsX5_mendTwins) := goodIn_app (goodIn_of _ (by decide +kernel)) ggX7_mend_X5_mendTwins
set_option maxRecDepth 20000 in
theorem ggX7_mend_X7_recorded : GoodIn wsX7_mend wsX7_recorded := goodIn_r _ [107, 1, 108, 109, 110, 6, 111, 14, 13, 15, 16, 17, 18, 112, 113, 114, 115, 116, 117, 118, 119, 120] (by decide +kernel) (by decide +kernel)
set_option maxRecDepth 20000 in
theorem gX7_mend_X7_recorded : GoodIn wsX7_mend (wsV RX7 55 RX7 yX7_recorded wsX7_recorded) := goodIn_app (goodIn_of _ (by decide +kernel)) ggX7_mend_X7_recorded
theorem dX7_mend_0 : decode cX7_mend 0 = .ok (.aload_n 0, 1) := by decide +kernel
theorem dX7_mend_1 : decode cX7_mend 1 = .ok (.getfield 22, 3) := by decide +kernel
theorem dX7_mend_4 : decode cX7_mend 4 = .ok (.aload_n 0, 1) := by decide +kernel
theorem dX7_mend_5 : decode cX7_mend 5 = .ok (.getfield 12, 3) := by decide +kernel
theorem dX7_mend_8 : decode cX7_mend 8 = .ok (.invokevirtual 47, 3) := by decide +kernel
theorem dX7_mend_11 : decode cX7_mend 11 = .ok (.aload_n 0, 1) := by decide +kernel
theorem dX7_mend_12 : decode cX7_mend 12 = .ok (.aload_n 0, 1) := by decide +kernel
theorem dX7_mend_13 : decode cX7_mend 13 = .ok (.getfield 12, 3) := by decide +kernel
theorem dX7_mend_16 : decode cX7_mend 16 = .ok (.iload_n 1, 1) := by decide +kernel
theorem dX7_mend_17 : decode cX7_mend 17 = .ok (.invokevirtual 82, 3) := by decide +kernel
theorem dX7_mend_20 : decode cX7_mend 20 = .ok (.invokevirtual 55, 3) := by decide +kernel
theorem dX7_mend_23 : decode cX7_mend 23 = .ok (.ireturn, 1) := by decide +kernel
set_option maxRecDepth 20000 in
theorem ggX7_undo_X2_size : GoodIn wsX7_undo wsX2_size := goodIn_r _ [7, 8, 72, 73, 74] (by decide +kernel) (by decide +kernel)
set_option maxRecDepth 20000 in
theorem gX7_undo_X2_size : GoodIn wsX7_undo (wsV RX7 85 RX2 yX2_size wsX2_size) := goodIn_app (goodIn_of _ (by decide +kernel)) ggX7_undo_X2_size
set_option maxRecDepth 20000 in
theorem ggX7_undo_X2_restoreLatest : GoodIn wsX7_undo wsX2_restoreLatest := goodIn_r _ [12, 8, 13, 14, 15, 6, 16, 17, 18, 19, 20, 21, 22, 23, 24, 25, 26, 27, 28, 29, 30, 31, 32, 33, 34, 35, 36, 37, 38, 39, 40, 41, 42, 43, 44, 45, 46, 47, 48, 49, 50, 51, 52, 53, 54, 55, 56, 57, 58, 59, 60, 61, 62, 63, 64, 65, 72, 73, 74, 75, 76, 77, 78, 79, 80, 81, 82, 83, 84, 85, 86, 87, 88, 89, 90, 91, 92] (by decide +kernel) (by decide +kernel)
set_option maxRecDepth 20000 in
theorem gX7_undo_X2_restoreLatest : GoodIn wsX7_undo (wsV RX7 88 RX2 yX2_restoreLatest wsX2_restoreLatest) := goodIn_app (goodIn_of _ (by decide +kernel)) ggX7_undo_X2_restoreLatest
theorem dX7_undo_0 : decode cX7_undo 0 = .ok (.aload_n 0, 1) := by decide +kernel
theorem dX7_undo_1 : decode cX7_undo 1 = .ok (.getfield 22, 3) := by decide +kernel
theorem dX7_undo_4 : decode cX7_undo 4 = .ok (.invokevirtual 85, 3) := by decide +kernel
theorem dX7_undo_7 : decode cX7_undo 7 = .ok (.ifCond .ne 6, 3) := by decide +kernel
theorem dX7_undo_10 : decode cX7_undo 10 = .ok (.bipush (-2), 2) := by decide +kernel
theorem dX7_undo_12 : decode cX7_undo 12 = .ok (.ireturn, 1) := by decide +kernel
theorem dX7_undo_13 : decode cX7_undo 13 = .ok (.aload_n 0, 1) := by decide +kernel
theorem dX7_undo_14 : decode cX7_undo 14 = .ok (.getfield 22, 3) := by decide +kernel
theorem dX7_undo_17 : decode cX7_undo 17 = .ok (.aload_n 0, 1) := by decide +kernel
theorem dX7_undo_18 : decode cX7_undo 18 = .ok (.getfield 12, 3) := by decide +kernel
theorem dX7_undo_21 : decode cX7_undo 21 = .ok (.invokevirtual 88, 3) := by decide +kernel
theorem dX7_undo_24 : decode cX7_undo 24 = .ok (.aload_n 0, 1) := by decide +kernel
theorem dX7_undo_25 : decode cX7_undo 25 = .ok (.getfield 22, 3) := by decide +kernel
theorem dX7_undo_28 : decode cX7_undo 28 = .ok (.invokevirtual 85, 3) := by decide +kernel
theorem dX7_undo_31 : decode cX7_undo 31 = .ok (.ireturn, 1) := by decide +kernel
set_option maxRecDepth 20000 in
theorem ggX7_append_X6_addCharacter : GoodIn wsX7_append wsX6_addCharacter := goodIn_r _ [6, 7, 8, 15, 16] (by decide +kernel) (by decide +kernel)
set_option maxRecDepth 20000 in
theorem gX7_append_X6_addCharacter : GoodIn wsX7_append (wsV RX7 91 RX6 yX6_addCharacter wsX6_addCharacter) := goodIn_app (goodIn_of _ (by decide +kernel)) ggX7_append_X6_addCharacter
theorem dX7_append_0 : decode cX7_append 0 = .ok (.aload_n 0, 1) := by decide +kernel
theorem dX7_append_1 : decode cX7_append 1 = .ok (.getfield 36, 3) := by decide +kernel
theorem dX7_append_4 : decode cX7_append 4 = .ok (.iload_n 1, 1) := by decide +kernel
theorem dX7_append_5 : decode cX7_append 5 = .ok (.invokevirtual 91, 3) := by decide +kernel
theorem dX7_append_8 : decode cX7_append 8 = .ok (.ireturn, 1) := by decide +kernel
set_option maxRecDepth 20000 in
theorem ggX7_clearText_X6_size : GoodIn wsX7_clearText wsX6_size := goodIn_r _ [6, 7, 18, 19] (by decide +kernel) (by decide +kernel)
set_option maxRecDepth 20000 in
theorem gX7_clearText_X6_size : GoodIn wsX7_clearText (wsV RX7 94 RX6 yX6_size wsX6_size) := goodIn_app (goodIn_of _ (by decide +kernel)) ggX7_clearText_X6_size
set_option maxRecDepth 20000 in
theorem ggX7_clearText_X6_empty : GoodIn wsX7_clearText wsX6_empty := goodIn_r _ [11, 7, 18, 19] (by decide +kernel) (by decide +kernel)
set_option maxRecDepth 20000 in
theorem gX7_clearText_X6_empty : GoodIn wsX7_clearText (wsV RX7 95 RX6 yX6_empty wsX6_empty) := goodIn_app (goodIn_of _ (by decide +kernel)) ggX7_clearText_X6_empty
theorem dX7_clearText_0 : decode cX7_clearText 0 = .ok (.aload_n 0, 1) := by decide +kernel
theorem dX7_clearText_1 : decode cX7_clearText 1 = .ok (.getfield 36, 3) := by decide +kernel
theorem dX7_clearText_4 : decode cX7_clearText 4 = .ok (.invokevirtual 94, 3) := by decide +kernel
theorem dX7_clearText_7 : decode cX7_clearText 7 = .ok (.istore_n 1, 1) := by decide +kernel
theorem dX7_clearText_8 : decode cX7_clearText 8 = .ok (.aload_n 0, 1) := by decide +kernel
theorem dX7_clearText_9 : decode cX7_clearText 9 = .ok (.getfield 36, 3) := by decide +kernel
theorem dX7_clearText_12 : decode cX7_clearText 12 = .ok (.invokevirtual 95, 3) := by decide +kernel
theorem dX7_clearText_15 : decode cX7_clearText 15 = .ok (.iload_n 1, 1) := by decide +kernel
theorem dX7_clearText_16 : decode cX7_clearText 16 = .ok (.ireturn, 1) := by decide +kernel
set_option maxRecDepth 20000 in
theorem ggX7_run_X2_draft : GoodIn wsX7_run wsX2_draft := goodIn_r _ [9, 10, 11, 12, 13, 8, 14, 15, 16, 17, 18, 19, 20, 21, 22, 23, 24, 25, 26, 27, 28, 29, 30, 31, 32, 33, 34, 35, 36, 37, 38, 39, 40, 41, 42, 43, 44, 45, 46, 47, 48, 49, 50, 51, 52, 53, 54, 55, 56, 57, 58, 59, 256, 257, 258, 259, 260, 261, 262, 263, 264, 265, 266, 267, 268, 269, 270, 271, 272, 273, 274, 275, 276] (by decide +kernel) (by decide +kernel)
set_option maxRecDepth 20000 in
theorem gX7_run_X2_draft : GoodIn wsX7_run (wsV RX7 47 RX2 yX2_draft wsX2_draft) := goodIn_app (goodIn_of _ (by decide +kernel)) ggX7_run_X2_draft
set_option maxRecDepth 20000 in
theorem ggX7_run_X6_size : GoodIn wsX7_run wsX6_size := goodIn_r _ [64, 65, 277, 278] (by decide +kernel) (by decide +kernel)
set_option maxRecDepth 20000 in
theorem gX7_run_X6_size : GoodIn wsX7_run (wsV RX7 94 RX6 yX6_size wsX6_size) := goodIn_app (goodIn_of _ (by decide +kernel)) ggX7_run_X6_size
set_option maxRecDepth 20000 in
theorem ggX7_run_X1_readFrom : GoodIn wsX7_run wsX1_readFrom := goodIn_r _ [70, 71, 72, 73, 74, 75, 76, 63, 77, 65, 78, 79, 80, 81, 69, 82, 83, 84, 85, 86, 87, 88, 89, 90, 91, 92, 93, 94, 95, 279, 280, 281, 277, 278] (by decide +kernel) (by decide +kernel)
set_option maxRecDepth 20000 in
theorem gX7_run_X1_readFrom : GoodIn wsX7_run (wsV RX7 98 RX1 yX1_readFrom wsX1_readFrom) := goodIn_app (goodIn_of _ (by decide +kernel)) ggX7_run_X1_readFrom
set_option maxRecDepth 20000 in
theorem ggX7_run_X1_end : GoodIn wsX7_run wsX1_end := goodIn_r _ [99, 71, 279, 280, 281] (by decide +kernel) (by decide +kernel)
set_option maxRecDepth 20000 in
theorem gX7_run_X1_end : GoodIn wsX7_run (wsV RX7 102 RX1 yX1_end wsX1_end) := goodIn_app (goodIn_of _ (by decide +kernel)) ggX7_run_X1_end
set_option maxRecDepth 20000 in
theorem ggX7_run_X7_textFailed : GoodIn wsX7_run wsX7_textFailed := goodIn_r _ [104, 1, 2, 105, 106, 107, 8, 108, 10, 11, 12, 13, 14, 15, 16, 17, 18, 19, 20, 21, 22, 23, 24, 25, 26, 27, 28, 29, 30, 31, 32, 33, 34, 35, 36, 37, 38, 39, 40, 41, 42, 43, 44, 45, 46, 47, 48, 49, 50, 51, 52, 53, 54, 55, 56, 57, 58, 59, 250, 251, 252, 253, 254, 255, 256, 257, 258, 259, 260, 261, 262, 263, 264, 265, 266, 267, 268, 269, 270, 271, 272, 273, 274, 275, 276] (by decide +kernel) (by decide +kernel)
set_option maxRecDepth 20000 in
theorem gX7_run_X7_textFailed : GoodIn wsX7_run (wsV RX7 105 RX7 yX7_textFailed wsX7_textFailed) := goodIn_app (goodIn_of _ (by decide +kernel)) ggX7_run_X7_textFailed
set_option maxRecDepth 20000 in
theorem ggX7_run_X1_callOn : GoodIn wsX7_run wsX1_callOn := goodIn_r _ [112, 72, 73, 113, 114, 115, 24, 116, 33, 31, 34, 37, 35, 26, 117, 103, 118, 119, 120, 121, 43, 122, 123, 124, 125, 126, 47, 127, 128, 129, 130, 131, 132, 133, 134, 36, 135, 136, 137, 138, 139, 140, 141, 142, 143, 144, 145, 146, 147, 148, 149, 150, 48, 151, 152, 153, 154, 155, 45, 49, 50, 156, 157, 158, 159, 160, 161, 162, 163, 164, 165, 166, 167, 168, 169, 32, 170, 171, 172, 173, 174, 175, 176, 177, 178, 179, 180, 181, 182, 183, 184, 54, 185, 59, 56, 186, 187, 188, 189, 190, 191, 192, 193, 194, 195, 196, 197, 198, 199, 200, 201, 202, 203, 204, 205, 58, 206, 207, 208, 209, 210, 211, 212, 213, 39, 214, 215, 216, 217, 218, 219, 220, 221, 222, 223, 224, 225, 226, 227, 228, 229, 230, 231, 232, 233, 234, 235, 236, 237, 279, 280, 281, 259, 260, 261, 262, 263, 264, 265, 266, 267, 268, 269, 270, 271, 272, 273, 274, 275, 276] (by decide +kernel) (by decide +kernel)
set_option maxRecDepth 20000 in
theorem gX7_run_X1_callOn : GoodIn wsX7_run (wsV RX7 108 RX1 yX1_callOn wsX1_callOn) := goodIn_app (goodIn_of _ (by decide +kernel)) ggX7_run_X1_callOn
set_option maxRecDepth 20000 in
theorem ggX7_run_X6_empty : GoodIn wsX7_run wsX6_empty := goodIn_r _ [241, 65, 277, 278] (by decide +kernel) (by decide +kernel)
set_option maxRecDepth 20000 in
theorem gX7_run_X6_empty : GoodIn wsX7_run (wsV RX7 95 RX6 yX6_empty wsX6_empty) := goodIn_app (goodIn_of _ (by decide +kernel)) ggX7_run_X6_empty
set_option maxRecDepth 20000 in
theorem ggX7_run_X7_recorded : GoodIn wsX7_run wsX7_recorded := goodIn_r _ [245, 1, 246, 247, 248, 8, 249, 16, 15, 17, 18, 19, 20, 250, 251, 252, 253, 254, 255, 256, 257, 258] (by decide +kernel) (by decide +kernel)
set_option maxRecDepth 20000 in
theorem gX7_run_X7_recorded : GoodIn wsX7_run (wsV RX7 55 RX7 yX7_recorded wsX7_recorded) := goodIn_app (goodIn_of _ (by decide +kernel)) ggX7_run_X7_recorded
theorem dX7_run_0 : decode cX7_run 0 = .ok (.aload_n 0, 1) := by decide +kernel
theorem dX7_run_1 : decode cX7_run 1 = .ok (.getfield 22, 3) := by decide +kernel
theorem dX7_run_4 : decode cX7_run 4 = .ok (.aload_n 0, 1) := by decide +kernel
theorem dX7_run_5 : decode cX7_run 5 = .ok (.getfield 12, 3) := by decide +kernel
theorem dX7_run_8 : decode cX7_run 8 = .ok (.invokevirtual 47, 3) := by decide +kernel
theorem dX7_run_11 : decode cX7_run 11 = .ok (.iconst 0, 1) := by decide +kernel
theorem dX7_run_12 : decode cX7_run 12 = .ok (.istore_n 1, 1) := by decide +kernel
