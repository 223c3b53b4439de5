theorem dX5_isInOldHalf_25 : decode cX5_isInOldHalf 25 = .ok (.bipush 64, 2) := by decide +kernel
theorem dX5_isInOldHalf_27 : decode cX5_isInOldHalf 27 = .ok (.if_icmp .ge 7, 3) := by decide +kernel
theorem dX5_isInOldHalf_30 : decode cX5_isInOldHalf 30 = .ok (.iconst 1, 1) := by decide +kernel
theorem dX5_isInOldHalf_31 : decode cX5_isInOldHalf 31 = .ok (.goto 4, 3) := by decide +kernel
theorem dX5_isInOldHalf_34 : decode cX5_isInOldHalf 34 = .ok (.iconst 0, 1) := by decide +kernel
theorem dX5_isInOldHalf_35 : decode cX5_isInOldHalf 35 = .ok (.ireturn, 1) := by decide +kernel
set_option maxRecDepth 20000 in
theorem ggX5_roomKept_X5_addressOfHalf : GoodIn wsX5_roomKept wsX5_addressOfHalf := goodIn_r _ [8] (by decide +kernel) (by decide +kernel)
set_option maxRecDepth 20000 in
theorem gX5_roomKept_X5_addressOfHalf : GoodIn wsX5_roomKept (wsV RX5 75 RX5 yX5_addressOfHalf wsX5_addressOfHalf) := goodIn_app (goodIn_of _ (by decide +kernel)) ggX5_roomKept_X5_addressOfHalf
set_option maxRecDepth 20000 in
theorem ggX5_roomKept_X0_noteAt : GoodIn wsX5_roomKept wsX0_noteAt := goodIn_r _ [13, 14, 15, 16, 17, 12, 18, 19, 34, 35, 36, 37, 38] (by decide +kernel) (by decide +kernel)
set_option maxRecDepth 20000 in
theorem gX5_roomKept_X0_noteAt : GoodIn wsX5_roomKept (wsV RX5 79 RX0 yX0_noteAt wsX0_noteAt) := goodIn_app (goodIn_of _ (by decide +kernel)) ggX5_roomKept_X0_noteAt
set_option maxRecDepth 20000 in
theorem ggX5_roomKept_X0_sizeAt : GoodIn wsX5_roomKept wsX0_sizeAt := goodIn_r _ [23, 19, 15, 16, 17, 12, 18, 34, 35, 36, 37, 38] (by decide +kernel) (by decide +kernel)
set_option maxRecDepth 20000 in
theorem gX5_roomKept_X0_sizeAt : GoodIn wsX5_roomKept (wsV RX5 82 RX0 yX0_sizeAt wsX0_sizeAt) := goodIn_app (goodIn_of _ (by decide +kernel)) ggX5_roomKept_X0_sizeAt
theorem dX5_roomKept_0 : decode cX5_roomKept 0 = .ok (.iconst 0, 1) := by decide +kernel
theorem dX5_roomKept_1 : decode cX5_roomKept 1 = .ok (.istore_n 1, 1) := by decide +kernel
theorem dX5_roomKept_2 : decode cX5_roomKept 2 = .ok (.aload_n 0, 1) := by decide +kernel
theorem dX5_roomKept_3 : decode cX5_roomKept 3 = .ok (.iconst 1, 1) := by decide +kernel
theorem dX5_roomKept_4 : decode cX5_roomKept 4 = .ok (.aload_n 0, 1) := by decide +kernel
theorem dX5_roomKept_5 : decode cX5_roomKept 5 = .ok (.getfield 59, 3) := by decide +kernel
theorem dX5_roomKept_8 : decode cX5_roomKept 8 = .ok (.isub, 1) := by decide +kernel
theorem dX5_roomKept_9 : decode cX5_roomKept 9 = .ok (.invokevirtual 75, 3) := by decide +kernel
theorem dX5_roomKept_12 : decode cX5_roomKept 12 = .ok (.istore_n 2, 1) := by decide +kernel
theorem dX5_roomKept_13 : decode cX5_roomKept 13 = .ok (.iconst 0, 1) := by decide +kernel
theorem dX5_roomKept_14 : decode cX5_roomKept 14 = .ok (.istore_n 3, 1) := by decide +kernel
theorem dX5_roomKept_15 : decode cX5_roomKept 15 = .ok (.aload_n 0, 1) := by decide +kernel
theorem dX5_roomKept_16 : decode cX5_roomKept 16 = .ok (.getfield 55, 3) := by decide +kernel
theorem dX5_roomKept_19 : decode cX5_roomKept 19 = .ok (.ifCond .eq 44, 3) := by decide +kernel
theorem dX5_roomKept_22 : decode cX5_roomKept 22 = .ok (.iload_n 3, 1) := by decide +kernel
theorem dX5_roomKept_23 : decode cX5_roomKept 23 = .ok (.bipush 64, 2) := by decide +kernel
theorem dX5_roomKept_25 : decode cX5_roomKept 25 = .ok (.if_icmp .ge 38, 3) := by decide +kernel
theorem dX5_roomKept_28 : decode cX5_roomKept 28 = .ok (.aload_n 0, 1) := by decide +kernel
theorem dX5_roomKept_29 : decode cX5_roomKept 29 = .ok (.getfield 18, 3) := by decide +kernel
theorem dX5_roomKept_32 : decode cX5_roomKept 32 = .ok (.iload_n 2, 1) := by decide +kernel
theorem dX5_roomKept_33 : decode cX5_roomKept 33 = .ok (.iload_n 3, 1) := by decide +kernel
theorem dX5_roomKept_34 : decode cX5_roomKept 34 = .ok (.iadd, 1) := by decide +kernel
theorem dX5_roomKept_35 : decode cX5_roomKept 35 = .ok (.invokevirtual 79, 3) := by decide +kernel
theorem dX5_roomKept_38 : decode cX5_roomKept 38 = .ok (.sipush 300, 3) := by decide +kernel
theorem dX5_roomKept_41 : decode cX5_roomKept 41 = .ok (.if_icmp .ne 16, 3) := by decide +kernel
theorem dX5_roomKept_44 : decode cX5_roomKept 44 = .ok (.iload_n 1, 1) := by decide +kernel
theorem dX5_roomKept_45 : decode cX5_roomKept 45 = .ok (.aload_n 0, 1) := by decide +kernel
theorem dX5_roomKept_46 : decode cX5_roomKept 46 = .ok (.getfield 18, 3) := by decide +kernel
theorem dX5_roomKept_49 : decode cX5_roomKept 49 = .ok (.iload_n 2, 1) := by decide +kernel
theorem dX5_roomKept_50 : decode cX5_roomKept 50 = .ok (.iload_n 3, 1) := by decide +kernel
theorem dX5_roomKept_51 : decode cX5_roomKept 51 = .ok (.iadd, 1) := by decide +kernel
theorem dX5_roomKept_52 : decode cX5_roomKept 52 = .ok (.invokevirtual 82, 3) := by decide +kernel
theorem dX5_roomKept_55 : decode cX5_roomKept 55 = .ok (.iadd, 1) := by decide +kernel
theorem dX5_roomKept_56 : decode cX5_roomKept 56 = .ok (.istore_n 1, 1) := by decide +kernel
theorem dX5_roomKept_57 : decode cX5_roomKept 57 = .ok (.iinc 3 1, 3) := by decide +kernel
theorem dX5_roomKept_60 : decode cX5_roomKept 60 = .ok (.goto (-45), 3) := by decide +kernel
theorem dX5_roomKept_63 : decode cX5_roomKept 63 = .ok (.iload_n 1, 1) := by decide +kernel
theorem dX5_roomKept_64 : decode cX5_roomKept 64 = .ok (.ireturn, 1) := by decide +kernel
set_option maxRecDepth 20000 in
theorem ggX5_hasTwins_X0_isOf : GoodIn wsX5_hasTwins wsX0_isOf := goodIn_r _ [6, 7, 8, 9, 10, 5, 11, 12, 34, 35, 36, 37, 38] (by decide +kernel) (by decide +kernel)
set_option maxRecDepth 20000 in
theorem gX5_hasTwins_X0_isOf : GoodIn wsX5_hasTwins (wsV RX5 85 RX0 yX0_isOf wsX0_isOf) := goodIn_app (goodIn_of _ (by decide +kernel)) ggX5_hasTwins_X0_isOf
set_option maxRecDepth 20000 in
theorem ggX5_hasTwins_X5_isInOldHalf : GoodIn wsX5_hasTwins wsX5_isInOldHalf := goodIn_r _ [17, 18, 19, 20, 21, 22, 16, 23, 24, 25, 26, 27, 28, 29, 30, 31, 32, 33] (by decide +kernel) (by decide +kernel)
set_option maxRecDepth 20000 in
theorem gX5_hasTwins_X5_isInOldHalf : GoodIn wsX5_hasTwins (wsV RX5 89 RX5 yX5_isInOldHalf wsX5_isInOldHalf) := goodIn_app (goodIn_of _ (by decide +kernel)) ggX5_hasTwins_X5_isInOldHalf
theorem dX5_hasTwins_0 : decode cX5_hasTwins 0 = .ok (.iconst 0, 1) := by decide +kernel
theorem dX5_hasTwins_1 : decode cX5_hasTwins 1 = .ok (.istore_n 2, 1) := by decide +kernel
theorem dX5_hasTwins_2 : decode cX5_hasTwins 2 = .ok (.iconst 0, 1) := by decide +kernel
theorem dX5_hasTwins_3 : decode cX5_hasTwins 3 = .ok (.istore_n 3, 1) := by decide +kernel
theorem dX5_hasTwins_4 : decode cX5_hasTwins 4 = .ok (.iload_n 3, 1) := by decide +kernel
theorem dX5_hasTwins_5 : decode cX5_hasTwins 5 = .ok (.sipush 260, 3) := by decide +kernel
theorem dX5_hasTwins_8 : decode cX5_hasTwins 8 = .ok (.if_icmp .ge 32, 3) := by decide +kernel
theorem dX5_hasTwins_11 : decode cX5_hasTwins 11 = .ok (.aload_n 0, 1) := by decide +kernel
theorem dX5_hasTwins_12 : decode cX5_hasTwins 12 = .ok (.getfield 18, 3) := by decide +kernel
theorem dX5_hasTwins_15 : decode cX5_hasTwins 15 = .ok (.iload_n 1, 1) := by decide +kernel
theorem dX5_hasTwins_16 : decode cX5_hasTwins 16 = .ok (.iload_n 3, 1) := by decide +kernel
theorem dX5_hasTwins_17 : decode cX5_hasTwins 17 = .ok (.invokevirtual 85, 3) := by decide +kernel
theorem dX5_hasTwins_20 : decode cX5_hasTwins 20 = .ok (.ifCond .eq 14, 3) := by decide +kernel
theorem dX5_hasTwins_23 : decode cX5_hasTwins 23 = .ok (.aload_n 0, 1) := by decide +kernel
theorem dX5_hasTwins_24 : decode cX5_hasTwins 24 = .ok (.iload_n 3, 1) := by decide +kernel
theorem dX5_hasTwins_25 : decode cX5_hasTwins 25 = .ok (.invokevirtual 89, 3) := by decide +kernel
theorem dX5_hasTwins_28 : decode cX5_hasTwins 28 = .ok (.ifCond .ne 6, 3) := by decide +kernel
theorem dX5_hasTwins_31 : decode cX5_hasTwins 31 = .ok (.iinc 2 1, 3) := by decide +kernel
theorem dX5_hasTwins_34 : decode cX5_hasTwins 34 = .ok (.iinc 3 1, 3) := by decide +kernel
theorem dX5_hasTwins_37 : decode cX5_hasTwins 37 = .ok (.goto (-33), 3) := by decide +kernel
theorem dX5_hasTwins_40 : decode cX5_hasTwins 40 = .ok (.iload_n 2, 1) := by decide +kernel
theorem dX5_hasTwins_41 : decode cX5_hasTwins 41 = .ok (.iconst 1, 1) := by decide +kernel
theorem dX5_hasTwins_42 : decode cX5_hasTwins 42 = .ok (.if_icmp .le 7, 3) := by decide +kernel
theorem dX5_hasTwins_45 : decode cX5_hasTwins 45 = .ok (.iconst 1, 1) := by decide +kernel
theorem dX5_hasTwins_46 : decode cX5_hasTwins 46 = .ok (.goto 4, 3) := by decide +kernel
theorem dX5_hasTwins_49 : decode cX5_hasTwins 49 = .ok (.iconst 0, 1) := by decide +kernel
theorem dX5_hasTwins_50 : decode cX5_hasTwins 50 = .ok (.ireturn, 1) := by decide +kernel
set_option maxRecDepth 20000 in
theorem ggX5_thingsWithTwins_X5_hasTwins : GoodIn wsX5_thingsWithTwins wsX5_hasTwins := goodIn_r _ [6, 7, 8, 9, 10, 11, 12, 13, 14, 15, 16, 17, 18, 19, 20, 21, 5, 22, 23, 24, 25, 26, 27, 28, 29, 30, 31, 32, 33, 34, 35, 36, 37, 38, 39, 40, 41, 42, 43] (by decide +kernel) (by decide +kernel)
set_option maxRecDepth 20000 in
theorem gX5_thingsWithTwins_X5_hasTwins : GoodIn wsX5_thingsWithTwins (wsV RX5 92 RX5 yX5_hasTwins wsX5_hasTwins) := goodIn_app (goodIn_of _ (by decide +kernel)) ggX5_thingsWithTwins_X5_hasTwins
theorem dX5_thingsWithTwins_0 : decode cX5_thingsWithTwins 0 = .ok (.iconst 0, 1) := by decide +kernel
theorem dX5_thingsWithTwins_1 : decode cX5_thingsWithTwins 1 = .ok (.istore_n 1, 1) := by decide +kernel
theorem dX5_thingsWithTwins_2 : decode cX5_thingsWithTwins 2 = .ok (.iconst 0, 1) := by decide +kernel
theorem dX5_thingsWithTwins_3 : decode cX5_thingsWithTwins 3 = .ok (.istore_n 2, 1) := by decide +kernel
theorem dX5_thingsWithTwins_4 : decode cX5_thingsWithTwins 4 = .ok (.iload_n 2, 1) := by decide +kernel
theorem dX5_thingsWithTwins_5 : decode cX5_thingsWithTwins 5 = .ok (.aload_n 0, 1) := by decide +kernel
theorem dX5_thingsWithTwins_6 : decode cX5_thingsWithTwins 6 = .ok (.getfield 52, 3) := by decide +kernel
theorem dX5_thingsWithTwins_9 : decode cX5_thingsWithTwins 9 = .ok (.if_icmp .ge 20, 3) := by decide +kernel
theorem dX5_thingsWithTwins_12 : decode cX5_thingsWithTwins 12 = .ok (.aload_n 0, 1) := by decide +kernel
theorem dX5_thingsWithTwins_13 : decode cX5_thingsWithTwins 13 = .ok (.iload_n 2, 1) := by decide +kernel
theorem dX5_thingsWithTwins_14 : decode cX5_thingsWithTwins 14 = .ok (.invokevirtual 92, 3) := by decide +kernel
theorem dX5_thingsWithTwins_17 : decode cX5_thingsWithTwins 17 = .ok (.ifCond .eq 6, 3) := by decide +kernel
theorem dX5_thingsWithTwins_20 : decode cX5_thingsWithTwins 20 = .ok (.iinc 1 1, 3) := by decide +kernel
theorem dX5_thingsWithTwins_23 : decode cX5_thingsWithTwins 23 = .ok (.iinc 2 1, 3) := by decide +kernel
theorem dX5_thingsWithTwins_26 : decode cX5_thingsWithTwins 26 = .ok (.goto (-22), 3) := by decide +kernel
theorem dX5_thingsWithTwins_29 : decode cX5_thingsWithTwins 29 = .ok (.iload_n 1, 1) := by decide +kernel
theorem dX5_thingsWithTwins_30 : decode cX5_thingsWithTwins 30 = .ok (.ireturn, 1) := by decide +kernel
set_option maxRecDepth 20000 in
theorem ggX5_numberOf_X0_number : GoodIn wsX5_numberOf wsX0_number := goodIn_r _ [13, 14, 15, 16, 12, 17, 18, 81, 82, 83, 84, 85] (by decide +kernel) (by decide +kernel)
set_option maxRecDepth 20000 in
theorem gX5_numberOf_X0_number : GoodIn wsX5_numberOf (wsV RX5 95 RX0 yX0_number wsX0_number) := goodIn_app (goodIn_of _ (by decide +kernel)) ggX5_numberOf_X0_number
set_option maxRecDepth 20000 in
theorem ggX5_numberOf_X5_freeInHalf : GoodIn wsX5_numberOf wsX5_freeInHalf := goodIn_r _ [23, 24, 71, 72, 73, 74, 75, 76, 77, 78, 79, 80] (by decide +kernel) (by decide +kernel)
set_option maxRecDepth 20000 in
theorem gX5_numberOf_X5_freeInHalf : GoodIn wsX5_numberOf (wsV RX5 99 RX5 yX5_freeInHalf wsX5_freeInHalf) := goodIn_app (goodIn_of _ (by decide +kernel)) ggX5_numberOf_X5_freeInHalf
set_option maxRecDepth 20000 in
theorem ggX5_numberOf_X0_floorTaken : GoodIn wsX5_numberOf wsX0_floorTaken := goodIn_r _ [28, 29, 30, 31, 12, 32, 18, 14, 15, 16, 17, 81, 82, 83, 84, 85] (by decide +kernel) (by decide +kernel)
set_option maxRecDepth 20000 in
theorem gX5_numberOf_X0_floorTaken : GoodIn wsX5_numberOf (wsV RX5 102 RX0 yX0_floorTaken wsX0_floorTaken) := goodIn_app (goodIn_of _ (by decide +kernel)) ggX5_numberOf_X0_floorTaken
set_option maxRecDepth 20000 in
theorem ggX5_numberOf_X3_size : GoodIn wsX5_numberOf wsX3_size := goodIn_r _ [37, 38, 39, 86, 87, 88] (by decide +kernel) (by decide +kernel)
set_option maxRecDepth 20000 in
theorem gX5_numberOf_X3_size : GoodIn wsX5_numberOf (wsV RX5 105 RX3 yX3_size wsX3_size) := goodIn_app (goodIn_of _ (by decide +kernel)) ggX5_numberOf_X3_size
set_option maxRecDepth 20000 in
theorem ggX5_numberOf_X5_roomKept : GoodIn wsX5_numberOf wsX5_roomKept := goodIn_r _ [43, 4, 3, 2, 44, 45, 46, 22, 47, 48, 49, 50, 12, 51, 52, 14, 15, 16, 17, 18, 53, 30, 31, 32, 71, 72, 73, 74, 75, 76, 77, 78, 79, 80, 81, 82, 83, 84, 85] (by decide +kernel) (by decide +kernel)
set_option maxRecDepth 20000 in
theorem gX5_numberOf_X5_roomKept : GoodIn wsX5_numberOf (wsV RX5 108 RX5 yX5_roomKept wsX5_roomKept) := goodIn_app (goodIn_of _ (by decide +kernel)) ggX5_numberOf_X5_roomKept
set_option maxRecDepth 20000 in
theorem ggX5_numberOf_X5_thingsWithTwins : GoodIn wsX5_numberOf wsX5_thingsWithTwins := goodIn_r _ [57, 1, 58, 59, 60, 22, 61, 2, 62, 63, 64, 12, 65, 66, 14, 15, 16, 17, 18, 67, 68, 69, 70, 4, 3, 44, 45, 46, 47, 71, 72, 73, 74, 75, 76, 77, 78, 79, 80, 81, 82, 83, 84, 85] (by decide +kernel) (by decide +kernel)
set_option maxRecDepth 20000 in
theorem gX5_numberOf_X5_thingsWithTwins : GoodIn wsX5_numberOf (wsV RX5 111 RX5 yX5_thingsWithTwins wsX5_thingsWithTwins) := goodIn_app (goodIn_of _ (by decide +kernel)) ggX5_numberOf_X5_thingsWithTwins
theorem dX5_numberOf_0 : decode cX5_numberOf 0 = .ok (.iload_n 1, 1) := by decide +kernel
theorem dX5_numberOf_1 : decode cX5_numberOf 1 = .ok (.tableswitch 143 0 11 #[63, 68, 76, 89, 94, 99, 110, 118, 123, 128, 133, 138], 63) := by decide +kernel
theorem dX5_numberOf_64 : decode cX5_numberOf 64 = .ok (.aload_n 0, 1) := by decide +kernel
theorem dX5_numberOf_65 : decode cX5_numberOf 65 = .ok (.getfield 52, 3) := by decide +kernel
theorem dX5_numberOf_68 : decode cX5_numberOf 68 = .ok (.ireturn, 1) := by decide +kernel
theorem dX5_numberOf_69 : decode cX5_numberOf 69 = .ok (.aload_n 0, 1) := by decide +kernel
theorem dX5_numberOf_70 : decode cX5_numberOf 70 = .ok (.getfield 18, 3) := by decide +kernel
theorem dX5_numberOf_73 : decode cX5_numberOf 73 = .ok (.invokevirtual 95, 3) := by decide +kernel
theorem dX5_numberOf_76 : decode cX5_numberOf 76 = .ok (.ireturn, 1) := by decide +kernel
theorem dX5_numberOf_77 : decode cX5_numberOf 77 = .ok (.aload_n 0, 1) := by decide +kernel
theorem dX5_numberOf_78 : decode cX5_numberOf 78 = .ok (.getfield 55, 3) := by decide +kernel
theorem dX5_numberOf_81 : decode cX5_numberOf 81 = .ok (.ifCond .eq 7, 3) := by decide +kernel
theorem dX5_numberOf_84 : decode cX5_numberOf 84 = .ok (.iconst 1, 1) := by decide +kernel
theorem dX5_numberOf_85 : decode cX5_numberOf 85 = .ok (.goto 4, 3) := by decide +kernel
theorem dX5_numberOf_88 : decode cX5_numberOf 88 = .ok (.iconst 0, 1) := by decide +kernel
theorem dX5_numberOf_89 : decode cX5_numberOf 89 = .ok (.ireturn, 1) := by decide +kernel
theorem dX5_numberOf_90 : decode cX5_numberOf 90 = .ok (.aload_n 0, 1) := by decide +kernel
theorem dX5_numberOf_91 : decode cX5_numberOf 91 = .ok (.getfield 59, 3) := by decide +kernel
theorem dX5_numberOf_94 : decode cX5_numberOf 94 = .ok (.ireturn, 1) := by decide +kernel
theorem dX5_numberOf_95 : decode cX5_numberOf 95 = .ok (.aload_n 0, 1) := by decide +kernel
theorem dX5_numberOf_96 : decode cX5_numberOf 96 = .ok (.invokevirtual 99, 3) := by decide +kernel
theorem dX5_numberOf_99 : decode cX5_numberOf 99 = .ok (.ireturn, 1) := by decide +kernel
theorem dX5_numberOf_100 : decode cX5_numberOf 100 = .ok (.bipush 60, 2) := by decide +kernel
theorem dX5_numberOf_102 : decode cX5_numberOf 102 = .ok (.aload_n 0, 1) := by decide +kernel
theorem dX5_numberOf_103 : decode cX5_numberOf 103 = .ok (.getfield 18, 3) := by decide +kernel
theorem dX5_numberOf_106 : decode cX5_numberOf 106 = .ok (.invokevirtual 102, 3) := by decide +kernel
theorem dX5_numberOf_109 : decode cX5_numberOf 109 = .ok (.isub, 1) := by decide +kernel
theorem dX5_numberOf_110 : decode cX5_numberOf 110 = .ok (.ireturn, 1) := by decide +kernel
theorem dX5_numberOf_111 : decode cX5_numberOf 111 = .ok (.aload_n 0, 1) := by decide +kernel
theorem dX5_numberOf_112 : decode cX5_numberOf 112 = .ok (.getfield 25, 3) := by decide +kernel
theorem dX5_numberOf_115 : decode cX5_numberOf 115 = .ok (.invokevirtual 105, 3) := by decide +kernel
theorem dX5_numberOf_118 : decode cX5_numberOf 118 = .ok (.ireturn, 1) := by decide +kernel
theorem dX5_numberOf_119 : decode cX5_numberOf 119 = .ok (.aload_n 0, 1) := by decide +kernel
theorem dX5_numberOf_120 : decode cX5_numberOf 120 = .ok (.invokevirtual 108, 3) := by decide +kernel
theorem dX5_numberOf_123 : decode cX5_numberOf 123 = .ok (.ireturn, 1) := by decide +kernel
theorem dX5_numberOf_124 : decode cX5_numberOf 124 = .ok (.aload_n 0, 1) := by decide +kernel
theorem dX5_numberOf_125 : decode cX5_numberOf 125 = .ok (.getfield 65, 3) := by decide +kernel
theorem dX5_numberOf_128 : decode cX5_numberOf 128 = .ok (.ireturn, 1) := by decide +kernel
theorem dX5_numberOf_129 : decode cX5_numberOf 129 = .ok (.aload_n 0, 1) := by decide +kernel
theorem dX5_numberOf_130 : decode cX5_numberOf 130 = .ok (.getfield 68, 3) := by decide +kernel
theorem dX5_numberOf_133 : decode cX5_numberOf 133 = .ok (.ireturn, 1) := by decide +kernel
theorem dX5_numberOf_134 : decode cX5_numberOf 134 = .ok (.aload_n 0, 1) := by decide +kernel
theorem dX5_numberOf_135 : decode cX5_numberOf 135 = .ok (.invokevirtual 111, 3) := by decide +kernel
theorem dX5_numberOf_138 : decode cX5_numberOf 138 = .ok (.ireturn, 1) := by decide +kernel
theorem dX5_numberOf_139 : decode cX5_numberOf 139 = .ok (.aload_n 0, 1) := by decide +kernel
theorem dX5_numberOf_140 : decode cX5_numberOf 140 = .ok (.getfield 29, 3) := by decide +kernel
theorem dX5_numberOf_143 : decode cX5_numberOf 143 = .ok (.ireturn, 1) := by decide +kernel
theorem dX5_numberOf_144 : decode cX5_numberOf 144 = .ok (.iconst (-1), 1) := by decide +kernel
theorem dX5_numberOf_145 : decode cX5_numberOf 145 = .ok (.ireturn, 1) := by decide +kernel
theorem dX5_changeBound_0 : decode cX5_changeBound 0 = .ok (.iload_n 1, 1) := by decide +kernel
theorem dX5_changeBound_1 : decode cX5_changeBound 1 = .ok (.iconst 2, 1) := by decide +kernel
theorem dX5_changeBound_2 : decode cX5_changeBound 2 = .ok (.if_icmp .lt 9, 3) := by decide +kernel
theorem dX5_changeBound_5 : decode cX5_changeBound 5 = .ok (.iload_n 1, 1) := by decide +kernel
theorem dX5_changeBound_6 : decode cX5_changeBound 6 = .ok (.bipush 13, 2) := by decide +kernel
theorem dX5_changeBound_8 : decode cX5_changeBound 8 = .ok (.if_icmp .le 5, 3) := by decide +kernel
theorem dX5_changeBound_11 : decode cX5_changeBound 11 = .ok (.iconst (-1), 1) := by decide +kernel
theorem dX5_changeBound_12 : decode cX5_changeBound 12 = .ok (.ireturn, 1) := by decide +kernel
theorem dX5_changeBound_13 : decode cX5_changeBound 13 = .ok (.aload_n 0, 1) := by decide +kernel
theorem dX5_changeBound_14 : decode cX5_changeBound 14 = .ok (.getfield 29, 3) := by decide +kernel
theorem dX5_changeBound_17 : decode cX5_changeBound 17 = .ok (.istore_n 2, 1) := by decide +kernel
theorem dX5_changeBound_18 : decode cX5_changeBound 18 = .ok (.aload_n 0, 1) := by decide +kernel
theorem dX5_changeBound_19 : decode cX5_changeBound 19 = .ok (.iload_n 1, 1) := by decide +kernel
theorem dX5_changeBound_20 : decode cX5_changeBound 20 = .ok (.putfield 29, 3) := by decide +kernel
theorem dX5_changeBound_23 : decode cX5_changeBound 23 = .ok (.iload_n 2, 1) := by decide +kernel
theorem dX5_changeBound_24 : decode cX5_changeBound 24 = .ok (.ireturn, 1) := by decide +kernel
set_option maxRecDepth 20000 in
theorem ggX5_makeThing_X7_isHook : GoodIn wsX5_makeThing wsX7_isHook := goodIn_r _ [9] (by decide +kernel) (by decide +kernel)
set_option maxRecDepth 20000 in
theorem gX5_makeThing_X7_isHook_n71 : GoodIn wsX5_makeThing (wsX7_isHook) := ggX5_makeThing_X7_isHook
set_option maxRecDepth 20000 in
theorem ggX5_makeThing_X0_floorAddressFor : GoodIn wsX5_makeThing wsX0_floorAddressFor := goodIn_r _ [14, 15, 16, 17, 13, 18, 19, 20, 21, 22, 23, 69, 70, 71, 72, 73] (by decide +kernel) (by decide +kernel)
set_option maxRecDepth 20000 in
theorem gX5_makeThing_X0_floorAddressFor : GoodIn wsX5_makeThing (wsV RX5 114 RX0 yX0_floorAddressFor wsX0_floorAddressFor) := goodIn_app (goodIn_of _ (by decide +kernel)) ggX5_makeThing_X0_floorAddressFor
set_option maxRecDepth 20000 in
theorem ggX5_makeThing_X5_halfAddressFor : GoodIn wsX5_makeThing wsX5_halfAddressFor := goodIn_r _ [28, 29, 4, 30, 31, 32, 27, 33, 34, 35, 36, 37, 5, 2, 38, 39, 40, 41, 42, 43, 44, 13, 45, 46, 20, 21, 22, 23, 19, 47, 16, 17, 18, 59, 60, 61, 62, 63, 64, 65, 66, 67, 68, 69, 70, 71, 72, 73] (by decide +kernel) (by decide +kernel)
set_option maxRecDepth 20000 in
theorem gX5_makeThing_X5_halfAddressFor : GoodIn wsX5_makeThing (wsV RX5 117 RX5 yX5_halfAddressFor wsX5_halfAddressFor) := goodIn_app (goodIn_of _ (by decide +kernel)) ggX5_makeThing_X5_halfAddressFor
set_option maxRecDepth 20000 in
theorem ggX5_makeThing_X0_lay : GoodIn wsX5_makeThing wsX0_lay := goodIn_r _ [51, 52, 19, 46, 53, 54, 69, 70, 71, 72, 73] (by decide +kernel) (by decide +kernel)
set_option maxRecDepth 20000 in
theorem gX5_makeThing_X0_lay : GoodIn wsX5_makeThing (wsV RX5 120 RX0 yX0_lay wsX0_lay) := goodIn_app (goodIn_of _ (by decide +kernel)) ggX5_makeThing_X0_lay
set_option maxRecDepth 20000 in
theorem ggX5_makeThing_X0_mark : GoodIn wsX5_makeThing wsX0_mark := goodIn_r _ [58, 53, 20, 21, 22, 13, 23, 19, 69, 70, 71, 72, 73] (by decide +kernel) (by decide +kernel)
set_option maxRecDepth 20000 in
theorem gX5_makeThing_X0_mark : GoodIn wsX5_makeThing (wsV RX5 124 RX0 yX0_mark wsX0_mark) := goodIn_app (goodIn_of _ (by decide +kernel)) ggX5_makeThing_X0_mark
theorem dX5_makeThing_0 : decode cX5_makeThing 0 = .ok (.iload_n 1, 1) := by decide +kernel
theorem dX5_makeThing_1 : decode cX5_makeThing 1 = .ok (.iconst 1, 1) := by decide +kernel
theorem dX5_makeThing_2 : decode cX5_makeThing 2 = .ok (.if_icmp .lt 16, 3) := by decide +kernel
theorem dX5_makeThing_5 : decode cX5_makeThing 5 = .ok (.iload_n 1, 1) := by decide +kernel
theorem dX5_makeThing_6 : decode cX5_makeThing 6 = .ok (.bipush 12, 2) := by decide +kernel
theorem dX5_makeThing_8 : decode cX5_makeThing 8 = .ok (.if_icmp .gt 10, 3) := by decide +kernel
theorem dX5_makeThing_11 : decode cX5_makeThing 11 = .ok (.iload_n 2, 1) := by decide +kernel
theorem dX5_makeThing_12 : decode cX5_makeThing 12 = .ok (.invokestatic 71, 3) := by decide +kernel
theorem dX5_makeThing_15 : decode cX5_makeThing 15 = .ok (.ifCond .ne 5, 3) := by decide +kernel
theorem dX5_makeThing_18 : decode cX5_makeThing 18 = .ok (.iconst (-1), 1) := by decide +kernel
theorem dX5_makeThing_19 : decode cX5_makeThing 19 = .ok (.ireturn, 1) := by decide +kernel
theorem dX5_makeThing_20 : decode cX5_makeThing 20 = .ok (.iload_n 1, 1) := by decide +kernel
theorem dX5_makeThing_21 : decode cX5_makeThing 21 = .ok (.aload_n 0, 1) := by decide +kernel
theorem dX5_makeThing_22 : decode cX5_makeThing 22 = .ok (.getfield 29, 3) := by decide +kernel
theorem dX5_makeThing_25 : decode cX5_makeThing 25 = .ok (.if_icmp .lt 7, 3) := by decide +kernel
theorem dX5_makeThing_28 : decode cX5_makeThing 28 = .ok (.iconst 1, 1) := by decide +kernel
theorem dX5_makeThing_29 : decode cX5_makeThing 29 = .ok (.goto 4, 3) := by decide +kernel
theorem dX5_makeThing_32 : decode cX5_makeThing 32 = .ok (.iconst 0, 1) := by decide +kernel
theorem dX5_makeThing_33 : decode cX5_makeThing 33 = .ok (.istore_n 3, 1) := by decide +kernel
theorem dX5_makeThing_34 : decode cX5_makeThing 34 = .ok (.iload_n 3, 1) := by decide +kernel
theorem dX5_makeThing_35 : decode cX5_makeThing 35 = .ok (.ifCond .eq 14, 3) := by decide +kernel
theorem dX5_makeThing_38 : decode cX5_makeThing 38 = .ok (.aload_n 0, 1) := by decide +kernel
theorem dX5_makeThing_39 : decode cX5_makeThing 39 = .ok (.getfield 18, 3) := by decide +kernel
theorem dX5_makeThing_42 : decode cX5_makeThing 42 = .ok (.iload_n 1, 1) := by decide +kernel
theorem dX5_makeThing_43 : decode cX5_makeThing 43 = .ok (.invokevirtual 114, 3) := by decide +kernel
theorem dX5_makeThing_46 : decode cX5_makeThing 46 = .ok (.goto 8, 3) := by decide +kernel
theorem dX5_makeThing_49 : decode cX5_makeThing 49 = .ok (.aload_n 0, 1) := by decide +kernel
theorem dX5_makeThing_50 : decode cX5_makeThing 50 = .ok (.iload_n 1, 1) := by decide +kernel
theorem dX5_makeThing_51 : decode cX5_makeThing 51 = .ok (.invokevirtual 117, 3) := by decide +kernel
theorem dX5_makeThing_54 : decode cX5_makeThing 54 = .ok (.istore 4, 2) := by decide +kernel
theorem dX5_makeThing_56 : decode cX5_makeThing 56 = .ok (.aload_n 0, 1) := by decide +kernel
theorem dX5_makeThing_57 : decode cX5_makeThing 57 = .ok (.getfield 52, 3) := by decide +kernel
theorem dX5_makeThing_60 : decode cX5_makeThing 60 = .ok (.bipush 40, 2) := by decide +kernel
theorem dX5_makeThing_62 : decode cX5_makeThing 62 = .ok (.if_icmp .ge 11, 3) := by decide +kernel
theorem dX5_makeThing_65 : decode cX5_makeThing 65 = .ok (.iload 4, 2) := by decide +kernel
theorem dX5_makeThing_67 : decode cX5_makeThing 67 = .ok (.sipush 300, 3) := by decide +kernel
theorem dX5_makeThing_70 : decode cX5_makeThing 70 = .ok (.if_icmp .ne 6, 3) := by decide +kernel
theorem dX5_makeThing_73 : decode cX5_makeThing 73 = .ok (.bipush (-3), 2) := by decide +kernel
theorem dX5_makeThing_75 : decode cX5_makeThing 75 = .ok (.ireturn, 1) := by decide +kernel
theorem dX5_makeThing_76 : decode cX5_makeThing 76 = .ok (.aload_n 0, 1) := by decide +kernel
theorem dX5_makeThing_77 : decode cX5_makeThing 77 = .ok (.getfield 18, 3) := by decide +kernel
theorem dX5_makeThing_80 : decode cX5_makeThing 80 = .ok (.iload 4, 2) := by decide +kernel
theorem dX5_makeThing_82 : decode cX5_makeThing 82 = .ok (.aload_n 0, 1) := by decide +kernel
theorem dX5_makeThing_83 : decode cX5_makeThing 83 = .ok (.getfield 52, 3) := by decide +kernel
theorem dX5_makeThing_86 : decode cX5_makeThing 86 = .ok (.iload_n 1, 1) := by decide +kernel
theorem dX5_makeThing_87 : decode cX5_makeThing 87 = .ok (.invokevirtual 120, 3) := by decide +kernel
theorem dX5_makeThing_90 : decode cX5_makeThing 90 = .ok (.iload_n 3, 1) := by decide +kernel
theorem dX5_makeThing_91 : decode cX5_makeThing 91 = .ok (.ifCond .ne 16, 3) := by decide +kernel
theorem dX5_makeThing_94 : decode cX5_makeThing 94 = .ok (.aload_n 0, 1) := by decide +kernel
theorem dX5_makeThing_95 : decode cX5_makeThing 95 = .ok (.dup, 1) := by decide +kernel
theorem dX5_makeThing_96 : decode cX5_makeThing 96 = .ok (.getfield 62, 3) := by decide +kernel
theorem dX5_makeThing_99 : decode cX5_makeThing 99 = .ok (.iload_n 1, 1) := by decide +kernel
theorem dX5_makeThing_100 : decode cX5_makeThing 100 = .ok (.iadd, 1) := by decide +kernel
theorem dX5_makeThing_101 : decode cX5_makeThing 101 = .ok (.putfield 62, 3) := by decide +kernel
theorem dX5_makeThing_104 : decode cX5_makeThing 104 = .ok (.goto 20, 3) := by decide +kernel
theorem dX5_makeThing_107 : decode cX5_makeThing 107 = .ok (.aload_n 0, 1) := by decide +kernel
theorem dX5_makeThing_108 : decode cX5_makeThing 108 = .ok (.getfield 55, 3) := by decide +kernel
theorem dX5_makeThing_111 : decode cX5_makeThing 111 = .ok (.ifCond .eq 13, 3) := by decide +kernel
theorem dX5_makeThing_114 : decode cX5_makeThing 114 = .ok (.aload_n 0, 1) := by decide +kernel
theorem dX5_makeThing_115 : decode cX5_makeThing 115 = .ok (.getfield 18, 3) := by decide +kernel
theorem dX5_makeThing_118 : decode cX5_makeThing 118 = .ok (.iload 4, 2) := by decide +kernel
theorem dX5_makeThing_120 : decode cX5_makeThing 120 = .ok (.invokevirtual 124, 3) := by decide +kernel
theorem dX5_makeThing_123 : decode cX5_makeThing 123 = .ok (.pop, 1) := by decide +kernel
theorem dX5_makeThing_124 : decode cX5_makeThing 124 = .ok (.aload_n 0, 1) := by decide +kernel
theorem dX5_makeThing_125 : decode cX5_makeThing 125 = .ok (.getfield 9, 3) := by decide +kernel
theorem dX5_makeThing_128 : decode cX5_makeThing 128 = .ok (.iload_n 2, 1) := by decide +kernel
theorem dX5_makeThing_129 : decode cX5_makeThing 129 = .ok (.iload 4, 2) := by decide +kernel
theorem dX5_makeThing_131 : decode cX5_makeThing 131 = .ok (.iastore, 1) := by decide +kernel
theorem dX5_makeThing_132 : decode cX5_makeThing 132 = .ok (.aload_n 0, 1) := by decide +kernel
theorem dX5_makeThing_133 : decode cX5_makeThing 133 = .ok (.dup, 1) := by decide +kernel
theorem dX5_makeThing_134 : decode cX5_makeThing 134 = .ok (.getfield 52, 3) := by decide +kernel
theorem dX5_makeThing_137 : decode cX5_makeThing 137 = .ok (.iconst 1, 1) := by decide +kernel
theorem dX5_makeThing_138 : decode cX5_makeThing 138 = .ok (.iadd, 1) := by decide +kernel
theorem dX5_makeThing_139 : decode cX5_makeThing 139 = .ok (.putfield 52, 3) := by decide +kernel
theorem dX5_makeThing_142 : decode cX5_makeThing 142 = .ok (.aload_n 0, 1) := by decide +kernel
theorem dX5_makeThing_143 : decode cX5_makeThing 143 = .ok (.getfield 52, 3) := by decide +kernel
theorem dX5_makeThing_146 : decode cX5_makeThing 146 = .ok (.iconst 1, 1) := by decide +kernel
theorem dX5_makeThing_147 : decode cX5_makeThing 147 = .ok (.isub, 1) := by decide +kernel
theorem dX5_makeThing_148 : decode cX5_makeThing 148 = .ok (.ireturn, 1) := by decide +kernel
set_option maxRecDepth 20000 in
theorem ggX5_halfAddressFor_X5_freeInHalf : GoodIn wsX5_halfAddressFor wsX5_freeInHalf := goodIn_r _ [7, 2, 33, 34, 35, 36, 37, 38, 39, 40, 41, 42] (by decide +kernel) (by decide +kernel)
set_option maxRecDepth 20000 in
theorem gX5_halfAddressFor_X5_freeInHalf : GoodIn wsX5_halfAddressFor (wsV RX5 99 RX5 yX5_freeInHalf wsX5_freeInHalf) := goodIn_app (goodIn_of _ (by decide +kernel)) ggX5_halfAddressFor_X5_freeInHalf
set_option maxRecDepth 20000 in
theorem ggX5_halfAddressFor_X5_roomKept : GoodIn wsX5_halfAddressFor wsX5_roomKept := goodIn_r _ [11, 1, 12, 13, 14, 15, 16, 6, 17, 18, 19, 20, 21, 22, 23, 24, 25, 26, 27, 28, 29, 30, 31, 32, 33, 34, 35, 36, 37, 38, 39, 40, 41, 42, 43, 44, 45, 46, 47] (by decide +kernel) (by decide +kernel)
set_option maxRecDepth 20000 in
theorem gX5_halfAddressFor_X5_roomKept : GoodIn wsX5_halfAddressFor (wsV RX5 108 RX5 yX5_roomKept wsX5_roomKept) := goodIn_app (goodIn_of _ (by decide +kernel)) ggX5_halfAddressFor_X5_roomKept
set_option maxRecDepth 20000 in
theorem ggX5_halfAddressFor_X5_addressOfHalf : GoodIn wsX5_halfAddressFor wsX5_addressOfHalf := goodIn_r _ [17] (by decide +kernel) (by decide +kernel)
set_option maxRecDepth 20000 in
theorem gX5_halfAddressFor_X5_addressOfHalf : GoodIn wsX5_halfAddressFor (wsV RX5 75 RX5 yX5_addressOfHalf wsX5_addressOfHalf) := goodIn_app (goodIn_of _ (by decide +kernel)) ggX5_halfAddressFor_X5_addressOfHalf
theorem dX5_halfAddressFor_0 : decode cX5_halfAddressFor 0 = .ok (.aload_n 0, 1) := by decide +kernel
theorem dX5_halfAddressFor_1 : decode cX5_halfAddressFor 1 = .ok (.invokevirtual 99, 3) := by decide +kernel
theorem dX5_halfAddressFor_4 : decode cX5_halfAddressFor 4 = .ok (.iload_n 1, 1) := by decide +kernel
theorem dX5_halfAddressFor_5 : decode cX5_halfAddressFor 5 = .ok (.isub, 1) := by decide +kernel
theorem dX5_halfAddressFor_6 : decode cX5_halfAddressFor 6 = .ok (.aload_n 0, 1) := by decide +kernel
theorem dX5_halfAddressFor_7 : decode cX5_halfAddressFor 7 = .ok (.invokevirtual 108, 3) := by decide +kernel
theorem dX5_halfAddressFor_10 : decode cX5_halfAddressFor 10 = .ok (.if_icmp .lt 19, 3) := by decide +kernel
theorem dX5_halfAddressFor_13 : decode cX5_halfAddressFor 13 = .ok (.aload_n 0, 1) := by decide +kernel
theorem dX5_halfAddressFor_14 : decode cX5_halfAddressFor 14 = .ok (.aload_n 0, 1) := by decide +kernel
theorem dX5_halfAddressFor_15 : decode cX5_halfAddressFor 15 = .ok (.getfield 59, 3) := by decide +kernel
theorem dX5_halfAddressFor_18 : decode cX5_halfAddressFor 18 = .ok (.invokevirtual 75, 3) := by decide +kernel
theorem dX5_halfAddressFor_21 : decode cX5_halfAddressFor 21 = .ok (.aload_n 0, 1) := by decide +kernel
theorem dX5_halfAddressFor_22 : decode cX5_halfAddressFor 22 = .ok (.getfield 62, 3) := by decide +kernel
theorem dX5_halfAddressFor_25 : decode cX5_halfAddressFor 25 = .ok (.iadd, 1) := by decide +kernel
theorem dX5_halfAddressFor_26 : decode cX5_halfAddressFor 26 = .ok (.goto 6, 3) := by decide +kernel
theorem dX5_halfAddressFor_29 : decode cX5_halfAddressFor 29 = .ok (.sipush 300, 3) := by decide +kernel
theorem dX5_halfAddressFor_32 : decode cX5_halfAddressFor 32 = .ok (.ireturn, 1) := by decide +kernel
set_option maxRecDepth 20000 in
theorem ggX5_linkHooks_X7_isHook : GoodIn wsX5_linkHooks wsX7_isHook := goodIn_r _ [5] (by decide +kernel) (by decide +kernel)
set_option maxRecDepth 20000 in
theorem gX5_linkHooks_X7_isHook_n71 : GoodIn wsX5_linkHooks (wsX7_isHook) := ggX5_linkHooks_X7_isHook
set_option maxRecDepth 20000 in
theorem ggX5_linkHooks_X7_isName : GoodIn wsX5_linkHooks wsX7_isName := goodIn_r _ [7] (by decide +kernel) (by decide +kernel)
set_option maxRecDepth 20000 in
theorem gX5_linkHooks_X7_isName_n127 : GoodIn wsX5_linkHooks (wsX7_isName) := ggX5_linkHooks_X7_isName
set_option maxRecDepth 20000 in
theorem ggX5_linkHooks_X5_readIn : GoodIn wsX5_linkHooks wsX5_readIn := goodIn_r _ [12, 2, 13, 14, 15, 16, 17, 11, 18, 19, 20, 21, 22, 23, 24, 25, 26, 27, 28, 29, 30, 31, 32, 33, 34, 35, 36, 37, 38, 39, 40, 41, 42, 43, 44, 45, 46, 47, 48, 49, 50, 51, 52, 53, 54, 55, 56, 57, 58, 59, 60, 61, 62, 63, 64, 65, 70, 71, 72, 73, 74, 75, 76, 77, 78, 79, 80, 81, 82, 83, 84, 85, 86, 87] (by decide +kernel) (by decide +kernel)
set_option maxRecDepth 20000 in
theorem gX5_linkHooks_X5_readIn : GoodIn wsX5_linkHooks (wsV RX5 130 RX5 yX5_readIn wsX5_readIn) := goodIn_app (goodIn_of _ (by decide +kernel)) ggX5_linkHooks_X5_readIn
set_option maxRecDepth 20000 in
theorem ggX5_linkHooks_X0_setName : GoodIn wsX5_linkHooks wsX0_setName := goodIn_r _ [69, 54, 30, 31, 32, 27, 33, 34, 6, 4, 7, 80, 81, 82, 83, 84] (by decide +kernel) (by decide +kernel)
set_option maxRecDepth 20000 in
theorem gX5_linkHooks_X0_setName : GoodIn wsX5_linkHooks (wsV RX5 134 RX0 yX0_setName wsX0_setName) := goodIn_app (goodIn_of _ (by decide +kernel)) ggX5_linkHooks_X0_setName
theorem dX5_linkHooks_0 : decode cX5_linkHooks 0 = .ok (.iload_n 1, 1) := by decide +kernel
theorem dX5_linkHooks_1 : decode cX5_linkHooks 1 = .ok (.invokestatic 71, 3) := by decide +kernel
theorem dX5_linkHooks_4 : decode cX5_linkHooks 4 = .ok (.ifCond .eq 17, 3) := by decide +kernel
theorem dX5_linkHooks_7 : decode cX5_linkHooks 7 = .ok (.iload_n 2, 1) := by decide +kernel
theorem dX5_linkHooks_8 : decode cX5_linkHooks 8 = .ok (.invokestatic 127, 3) := by decide +kernel
theorem dX5_linkHooks_11 : decode cX5_linkHooks 11 = .ok (.ifCond .eq 10, 3) := by decide +kernel
theorem dX5_linkHooks_14 : decode cX5_linkHooks 14 = .ok (.iload_n 3, 1) := by decide +kernel
theorem dX5_linkHooks_15 : decode cX5_linkHooks 15 = .ok (.invokestatic 71, 3) := by decide +kernel
theorem dX5_linkHooks_18 : decode cX5_linkHooks 18 = .ok (.ifCond .ne 5, 3) := by decide +kernel
theorem dX5_linkHooks_21 : decode cX5_linkHooks 21 = .ok (.iconst (-1), 1) := by decide +kernel
theorem dX5_linkHooks_22 : decode cX5_linkHooks 22 = .ok (.ireturn, 1) := by decide +kernel
theorem dX5_linkHooks_23 : decode cX5_linkHooks 23 = .ok (.aload_n 0, 1) := by decide +kernel
theorem dX5_linkHooks_24 : decode cX5_linkHooks 24 = .ok (.getfield 9, 3) := by decide +kernel
theorem dX5_linkHooks_27 : decode cX5_linkHooks 27 = .ok (.iload_n 1, 1) := by decide +kernel
theorem dX5_linkHooks_28 : decode cX5_linkHooks 28 = .ok (.iaload, 1) := by decide +kernel
theorem dX5_linkHooks_29 : decode cX5_linkHooks 29 = .ok (.sipush 300, 3) := by decide +kernel
theorem dX5_linkHooks_32 : decode cX5_linkHooks 32 = .ok (.if_icmp .ne 6, 3) := by decide +kernel
theorem dX5_linkHooks_35 : decode cX5_linkHooks 35 = .ok (.bipush (-2), 2) := by decide +kernel
theorem dX5_linkHooks_37 : decode cX5_linkHooks 37 = .ok (.ireturn, 1) := by decide +kernel
theorem dX5_linkHooks_38 : decode cX5_linkHooks 38 = .ok (.aload_n 0, 1) := by decide +kernel
theorem dX5_linkHooks_39 : decode cX5_linkHooks 39 = .ok (.aload_n 0, 1) := by decide +kernel
theorem dX5_linkHooks_40 : decode cX5_linkHooks 40 = .ok (.getfield 9, 3) := by decide +kernel
theorem dX5_linkHooks_43 : decode cX5_linkHooks 43 = .ok (.iload_n 1, 1) := by decide +kernel
theorem dX5_linkHooks_44 : decode cX5_linkHooks 44 = .ok (.invokevirtual 130, 3) := by decide +kernel
theorem dX5_linkHooks_47 : decode cX5_linkHooks 47 = .ok (.istore 4, 2) := by decide +kernel
theorem dX5_linkHooks_49 : decode cX5_linkHooks 49 = .ok (.aload_n 0, 1) := by decide +kernel
theorem dX5_linkHooks_50 : decode cX5_linkHooks 50 = .ok (.aload_n 0, 1) := by decide +kernel
theorem dX5_linkHooks_51 : decode cX5_linkHooks 51 = .ok (.getfield 9, 3) := by decide +kernel
theorem dX5_linkHooks_54 : decode cX5_linkHooks 54 = .ok (.iload_n 3, 1) := by decide +kernel
theorem dX5_linkHooks_55 : decode cX5_linkHooks 55 = .ok (.invokevirtual 130, 3) := by decide +kernel
theorem dX5_linkHooks_58 : decode cX5_linkHooks 58 = .ok (.istore 5, 2) := by decide +kernel
theorem dX5_linkHooks_60 : decode cX5_linkHooks 60 = .ok (.aload_n 0, 1) := by decide +kernel
theorem dX5_linkHooks_61 : decode cX5_linkHooks 61 = .ok (.getfield 18, 3) := by decide +kernel
theorem dX5_linkHooks_64 : decode cX5_linkHooks 64 = .ok (.iload 4, 2) := by decide +kernel
theorem dX5_linkHooks_66 : decode cX5_linkHooks 66 = .ok (.iload_n 2, 1) := by decide +kernel
theorem dX5_linkHooks_67 : decode cX5_linkHooks 67 = .ok (.iload 5, 2) := by decide +kernel
theorem dX5_linkHooks_69 : decode cX5_linkHooks 69 = .ok (.invokevirtual 134, 3) := by decide +kernel
theorem dX5_linkHooks_72 : decode cX5_linkHooks 72 = .ok (.iload 5, 2) := by decide +kernel
theorem dX5_linkHooks_74 : decode cX5_linkHooks 74 = .ok (.ireturn, 1) := by decide +kernel
set_option maxRecDepth 20000 in
theorem ggX5_followName_X7_isHook : GoodIn wsX5_followName wsX7_isHook := goodIn_r _ [5] (by decide +kernel) (by decide +kernel)
set_option maxRecDepth 20000 in
theorem gX5_followName_X7_isHook_n71 : GoodIn wsX5_followName (wsX7_isHook) := ggX5_followName_X7_isHook
set_option maxRecDepth 20000 in
theorem ggX5_followName_X7_isName : GoodIn wsX5_followName wsX7_isName := goodIn_r _ [7] (by decide +kernel) (by decide +kernel)
set_option maxRecDepth 20000 in
theorem gX5_followName_X7_isName_n127 : GoodIn wsX5_followName (wsX7_isName) := ggX5_followName_X7_isName
set_option maxRecDepth 20000 in
theorem ggX5_followName_X5_readIn : GoodIn wsX5_followName wsX5_readIn := goodIn_r _ [12, 2, 13, 14, 15, 16, 17, 11, 18, 19, 20, 21, 22, 23, 24, 25, 26, 27, 28, 29, 30, 31, 32, 33, 34, 35, 36, 37, 38, 39, 40, 41, 42, 43, 44, 45, 46, 47, 48, 49, 50, 51, 52, 53, 54, 55, 56, 57, 58, 59, 60, 61, 62, 63, 64, 65, 66, 67, 68, 69, 70, 71, 72, 73, 74, 75, 76, 77, 78, 79, 80, 81, 82, 83] (by decide +kernel) (by decide +kernel)
set_option maxRecDepth 20000 in
theorem gX5_followName_X5_readIn : GoodIn wsX5_followName (wsV RX5 130 RX5 yX5_readIn wsX5_readIn) := goodIn_app (goodIn_of _ (by decide +kernel)) ggX5_followName_X5_readIn
theorem dX5_followName_0 : decode cX5_followName 0 = .ok (.iload_n 1, 1) := by decide +kernel
theorem dX5_followName_1 : decode cX5_followName 1 = .ok (.invokestatic 71, 3) := by decide +kernel
theorem dX5_followName_4 : decode cX5_followName 4 = .ok (.ifCond .eq 17, 3) := by decide +kernel
theorem dX5_followName_7 : decode cX5_followName 7 = .ok (.iload_n 2, 1) := by decide +kernel
theorem dX5_followName_8 : decode cX5_followName 8 = .ok (.invokestatic 127, 3) := by decide +kernel
theorem dX5_followName_11 : decode cX5_followName 11 = .ok (.ifCond .eq 10, 3) := by decide +kernel
theorem dX5_followName_14 : decode cX5_followName 14 = .ok (.iload_n 3, 1) := by decide +kernel
theorem dX5_followName_15 : decode cX5_followName 15 = .ok (.invokestatic 71, 3) := by decide +kernel
theorem dX5_followName_18 : decode cX5_followName 18 = .ok (.ifCond .ne 5, 3) := by decide +kernel
theorem dX5_followName_21 : decode cX5_followName 21 = .ok (.iconst (-1), 1) := by decide +kernel
theorem dX5_followName_22 : decode cX5_followName 22 = .ok (.ireturn, 1) := by decide +kernel
theorem dX5_followName_23 : decode cX5_followName 23 = .ok (.aload_n 0, 1) := by decide +kernel
theorem dX5_followName_24 : decode cX5_followName 24 = .ok (.getfield 9, 3) := by decide +kernel
theorem dX5_followName_27 : decode cX5_followName 27 = .ok (.iload_n 1, 1) := by decide +kernel
theorem dX5_followName_28 : decode cX5_followName 28 = .ok (.iaload, 1) := by decide +kernel
theorem dX5_followName_29 : decode cX5_followName 29 = .ok (.sipush 300, 3) := by decide +kernel
theorem dX5_followName_32 : decode cX5_followName 32 = .ok (.if_icmp .ne 6, 3) := by decide +kernel
theorem dX5_followName_35 : decode cX5_followName 35 = .ok (.bipush (-2), 2) := by decide +kernel
theorem dX5_followName_37 : decode cX5_followName 37 = .ok (.ireturn, 1) := by decide +kernel
theorem dX5_followName_38 : decode cX5_followName 38 = .ok (.aload_n 0, 1) := by decide +kernel
theorem dX5_followName_39 : decode cX5_followName 39 = .ok (.aload_n 0, 1) := by decide +kernel
theorem dX5_followName_40 : decode cX5_followName 40 = .ok (.getfield 9, 3) := by decide +kernel
theorem dX5_followName_43 : decode cX5_followName 43 = .ok (.iload_n 1, 1) := by decide +kernel
theorem dX5_followName_44 : decode cX5_followName 44 = .ok (.invokevirtual 130, 3) := by decide +kernel
theorem dX5_followName_47 : decode cX5_followName 47 = .ok (.istore 4, 2) := by decide +kernel
theorem dX5_followName_49 : decode cX5_followName 49 = .ok (.aload_n 0, 1) := by decide +kernel
theorem dX5_followName_50 : decode cX5_followName 50 = .ok (.getfield 9, 3) := by decide +kernel
theorem dX5_followName_53 : decode cX5_followName 53 = .ok (.iload_n 3, 1) := by decide +kernel
theorem dX5_followName_54 : decode cX5_followName 54 = .ok (.aload_n 0, 1) := by decide +kernel
theorem dX5_followName_55 : decode cX5_followName 55 = .ok (.aload_n 0, 1) := by decide +kernel
theorem dX5_followName_56 : decode cX5_followName 56 = .ok (.getfield 18, 3) := by decide +kernel
theorem dX5_followName_59 : decode cX5_followName 59 = .ok (.getfield 137, 3) := by decide +kernel
theorem dX5_followName_62 : decode cX5_followName 62 = .ok (.iload 4, 2) := by decide +kernel
theorem dX5_followName_64 : decode cX5_followName 64 = .ok (.iconst 2, 1) := by decide +kernel
theorem dX5_followName_65 : decode cX5_followName 65 = .ok (.imul, 1) := by decide +kernel
theorem dX5_followName_66 : decode cX5_followName 66 = .ok (.iload_n 2, 1) := by decide +kernel
theorem dX5_followName_67 : decode cX5_followName 67 = .ok (.iadd, 1) := by decide +kernel
theorem dX5_followName_68 : decode cX5_followName 68 = .ok (.invokevirtual 130, 3) := by decide +kernel
theorem dX5_followName_71 : decode cX5_followName 71 = .ok (.iastore, 1) := by decide +kernel
theorem dX5_followName_72 : decode cX5_followName 72 = .ok (.aload_n 0, 1) := by decide +kernel
theorem dX5_followName_73 : decode cX5_followName 73 = .ok (.getfield 9, 3) := by decide +kernel
theorem dX5_followName_76 : decode cX5_followName 76 = .ok (.iload_n 3, 1) := by decide +kernel
theorem dX5_followName_77 : decode cX5_followName 77 = .ok (.iaload, 1) := by decide +kernel
theorem dX5_followName_78 : decode cX5_followName 78 = .ok (.ireturn, 1) := by decide +kernel
set_option maxRecDepth 20000 in
theorem ggX5_dropHook_X7_isHook : GoodIn wsX5_dropHook wsX7_isHook := goodIn_r _ [4] (by decide +kernel) (by decide +kernel)
set_option maxRecDepth 20000 in
theorem gX5_dropHook_X7_isHook_n71 : GoodIn wsX5_dropHook (wsX7_isHook) := ggX5_dropHook_X7_isHook
theorem dX5_dropHook_0 : decode cX5_dropHook 0 = .ok (.iload_n 1, 1) := by decide +kernel
theorem dX5_dropHook_1 : decode cX5_dropHook 1 = .ok (.invokestatic 71, 3) := by decide +kernel
theorem dX5_dropHook_4 : decode cX5_dropHook 4 = .ok (.ifCond .ne 5, 3) := by decide +kernel
theorem dX5_dropHook_7 : decode cX5_dropHook 7 = .ok (.iconst (-1), 1) := by decide +kernel
theorem dX5_dropHook_8 : decode cX5_dropHook 8 = .ok (.ireturn, 1) := by decide +kernel
theorem dX5_dropHook_9 : decode cX5_dropHook 9 = .ok (.aload_n 0, 1) := by decide +kernel
theorem dX5_dropHook_10 : decode cX5_dropHook 10 = .ok (.getfield 9, 3) := by decide +kernel
theorem dX5_dropHook_13 : decode cX5_dropHook 13 = .ok (.iload_n 1, 1) := by decide +kernel
theorem dX5_dropHook_14 : decode cX5_dropHook 14 = .ok (.iaload, 1) := by decide +kernel
theorem dX5_dropHook_15 : decode cX5_dropHook 15 = .ok (.istore_n 2, 1) := by decide +kernel
theorem dX5_dropHook_16 : decode cX5_dropHook 16 = .ok (.aload_n 0, 1) := by decide +kernel
theorem dX5_dropHook_17 : decode cX5_dropHook 17 = .ok (.getfield 9, 3) := by decide +kernel
theorem dX5_dropHook_20 : decode cX5_dropHook 20 = .ok (.iload_n 1, 1) := by decide +kernel
theorem dX5_dropHook_21 : decode cX5_dropHook 21 = .ok (.sipush 300, 3) := by decide +kernel
theorem dX5_dropHook_24 : decode cX5_dropHook 24 = .ok (.iastore, 1) := by decide +kernel
theorem dX5_dropHook_25 : decode cX5_dropHook 25 = .ok (.iload_n 2, 1) := by decide +kernel
theorem dX5_dropHook_26 : decode cX5_dropHook 26 = .ok (.ireturn, 1) := by decide +kernel
set_option maxRecDepth 20000 in
theorem ggX5_beginMove_X3_clear : GoodIn wsX5_beginMove wsX3_clear := goodIn_r _ [10, 11, 12, 97, 98, 99] (by decide +kernel) (by decide +kernel)
set_option maxRecDepth 20000 in
theorem gX5_beginMove_X3_clear : GoodIn wsX5_beginMove (wsV RX5 140 RX3 yX3_clear wsX3_clear) := goodIn_app (goodIn_of _ (by decide +kernel)) ggX5_beginMove_X3_clear
set_option maxRecDepth 20000 in
theorem ggX5_beginMove_X5_readIn : GoodIn wsX5_beginMove wsX5_readIn := goodIn_r _ [17, 18, 1, 4, 19, 20, 21, 16, 22, 2, 23, 24, 25, 26, 27, 28, 29, 30, 31, 32, 33, 34, 35, 36, 37, 38, 39, 40, 41, 42, 43, 44, 45, 3, 46, 47, 48, 49, 50, 51, 52, 53, 54, 55, 56, 57, 58, 59, 9, 60, 12, 61, 62, 63, 64, 65, 87, 88, 89, 90, 91, 92, 93, 94, 95, 96, 100, 101, 102, 103, 104, 97, 98, 99] (by decide +kernel) (by decide +kernel)
set_option maxRecDepth 20000 in
theorem gX5_beginMove_X5_readIn : GoodIn wsX5_beginMove (wsV RX5 130 RX5 yX5_readIn wsX5_readIn) := goodIn_app (goodIn_of _ (by decide +kernel)) ggX5_beginMove_X5_readIn
set_option maxRecDepth 20000 in
theorem ggX5_beginMove_X3_size : GoodIn wsX5_beginMove wsX3_size := goodIn_r _ [69, 12, 11, 97, 98, 99] (by decide +kernel) (by decide +kernel)
set_option maxRecDepth 20000 in
theorem gX5_beginMove_X3_size : GoodIn wsX5_beginMove (wsV RX5 105 RX3 yX3_size wsX3_size) := goodIn_app (goodIn_of _ (by decide +kernel)) ggX5_beginMove_X3_size
set_option maxRecDepth 20000 in
theorem ggX5_beginMove_X5_endMove : GoodIn wsX5_beginMove wsX5_endMove := goodIn_r _ [73, 18, 2, 1, 74, 75, 76, 77, 30, 78, 79, 80, 81, 82, 37, 83, 84, 85, 86, 55, 87, 88, 89, 90, 91, 92, 93, 94, 95, 96, 100, 101, 102, 103, 104] (by decide +kernel) (by decide +kernel)
set_option maxRecDepth 20000 in
theorem gX5_beginMove_X5_endMove : GoodIn wsX5_beginMove (wsV RX5 143 RX5 yX5_endMove wsX5_endMove) := goodIn_app (goodIn_of _ (by decide +kernel)) ggX5_beginMove_X5_endMove
theorem dX5_beginMove_0 : decode cX5_beginMove 0 = .ok (.aload_n 0, 1) := by decide +kernel
theorem dX5_beginMove_1 : decode cX5_beginMove 1 = .ok (.getfield 55, 3) := by decide +kernel
theorem dX5_beginMove_4 : decode cX5_beginMove 4 = .ok (.ifCond .eq 6, 3) := by decide +kernel
theorem dX5_beginMove_7 : decode cX5_beginMove 7 = .ok (.bipush (-2), 2) := by decide +kernel
theorem dX5_beginMove_9 : decode cX5_beginMove 9 = .ok (.ireturn, 1) := by decide +kernel
theorem dX5_beginMove_10 : decode cX5_beginMove 10 = .ok (.aload_n 0, 1) := by decide +kernel
theorem dX5_beginMove_11 : decode cX5_beginMove 11 = .ok (.iconst 1, 1) := by decide +kernel
theorem dX5_beginMove_12 : decode cX5_beginMove 12 = .ok (.putfield 55, 3) := by decide +kernel
theorem dX5_beginMove_15 : decode cX5_beginMove 15 = .ok (.aload_n 0, 1) := by decide +kernel
theorem dX5_beginMove_16 : decode cX5_beginMove 16 = .ok (.iconst 1, 1) := by decide +kernel
theorem dX5_beginMove_17 : decode cX5_beginMove 17 = .ok (.aload_n 0, 1) := by decide +kernel
theorem dX5_beginMove_18 : decode cX5_beginMove 18 = .ok (.getfield 59, 3) := by decide +kernel
theorem dX5_beginMove_21 : decode cX5_beginMove 21 = .ok (.isub, 1) := by decide +kernel
theorem dX5_beginMove_22 : decode cX5_beginMove 22 = .ok (.putfield 59, 3) := by decide +kernel
theorem dX5_beginMove_25 : decode cX5_beginMove 25 = .ok (.aload_n 0, 1) := by decide +kernel
theorem dX5_beginMove_26 : decode cX5_beginMove 26 = .ok (.iconst 0, 1) := by decide +kernel
theorem dX5_beginMove_27 : decode cX5_beginMove 27 = .ok (.putfield 62, 3) := by decide +kernel
theorem dX5_beginMove_30 : decode cX5_beginMove 30 = .ok (.aload_n 0, 1) := by decide +kernel
theorem dX5_beginMove_31 : decode cX5_beginMove 31 = .ok (.getfield 25, 3) := by decide +kernel
theorem dX5_beginMove_34 : decode cX5_beginMove 34 = .ok (.invokevirtual 140, 3) := by decide +kernel
theorem dX5_beginMove_37 : decode cX5_beginMove 37 = .ok (.iconst 0, 1) := by decide +kernel
theorem dX5_beginMove_38 : decode cX5_beginMove 38 = .ok (.istore_n 1, 1) := by decide +kernel
theorem dX5_beginMove_39 : decode cX5_beginMove 39 = .ok (.iload_n 1, 1) := by decide +kernel
theorem dX5_beginMove_40 : decode cX5_beginMove 40 = .ok (.bipush 8, 2) := by decide +kernel
theorem dX5_beginMove_42 : decode cX5_beginMove 42 = .ok (.if_icmp .ge 19, 3) := by decide +kernel
theorem dX5_beginMove_45 : decode cX5_beginMove 45 = .ok (.aload_n 0, 1) := by decide +kernel
theorem dX5_beginMove_46 : decode cX5_beginMove 46 = .ok (.aload_n 0, 1) := by decide +kernel
theorem dX5_beginMove_47 : decode cX5_beginMove 47 = .ok (.getfield 9, 3) := by decide +kernel
theorem dX5_beginMove_50 : decode cX5_beginMove 50 = .ok (.iload_n 1, 1) := by decide +kernel
theorem dX5_beginMove_51 : decode cX5_beginMove 51 = .ok (.invokevirtual 130, 3) := by decide +kernel
theorem dX5_beginMove_54 : decode cX5_beginMove 54 = .ok (.pop, 1) := by decide +kernel
theorem dX5_beginMove_55 : decode cX5_beginMove 55 = .ok (.iinc 1 1, 3) := by decide +kernel
theorem dX5_beginMove_58 : decode cX5_beginMove 58 = .ok (.goto (-19), 3) := by decide +kernel
theorem dX5_beginMove_61 : decode cX5_beginMove 61 = .ok (.aload_n 0, 1) := by decide +kernel
theorem dX5_beginMove_62 : decode cX5_beginMove 62 = .ok (.getfield 25, 3) := by decide +kernel
theorem dX5_beginMove_65 : decode cX5_beginMove 65 = .ok (.invokevirtual 105, 3) := by decide +kernel
theorem dX5_beginMove_68 : decode cX5_beginMove 68 = .ok (.istore_n 1, 1) := by decide +kernel
theorem dX5_beginMove_69 : decode cX5_beginMove 69 = .ok (.iload_n 1, 1) := by decide +kernel
theorem dX5_beginMove_70 : decode cX5_beginMove 70 = .ok (.ifCond .ne 7, 3) := by decide +kernel
theorem dX5_beginMove_73 : decode cX5_beginMove 73 = .ok (.aload_n 0, 1) := by decide +kernel
theorem dX5_beginMove_74 : decode cX5_beginMove 74 = .ok (.invokevirtual 143, 3) := by decide +kernel
theorem dX5_beginMove_77 : decode cX5_beginMove 77 = .ok (.iload_n 1, 1) := by decide +kernel
theorem dX5_beginMove_78 : decode cX5_beginMove 78 = .ok (.ireturn, 1) := by decide +kernel
set_option maxRecDepth 20000 in
theorem ggX5_carrySteps_X5_stepsUpTo : GoodIn wsX5_carrySteps wsX5_stepsUpTo := goodIn_r _ [6, 1, 7, 8, 9, 10, 11, 12, 13, 14, 15, 16, 17, 18, 19, 5, 20, 21, 22, 23, 24, 25, 26, 27, 28, 29, 30, 31, 32, 33, 34, 35, 36, 37, 38, 39, 40, 41, 42, 43, 44, 45, 46, 47, 48, 49, 50, 51, 52, 53, 54, 55, 56, 57, 58, 59, 60, 61, 62, 63, 64, 65, 66, 67, 68, 69, 70, 71, 72, 73, 74, 75, 76, 77, 78, 79, 80, 81, 82, 83, 84, 85, 86, 87, 88, 89, 90, 91, 92, 93, 94, 95, 96, 97, 98, 99, 100, 101, 102, 103, 104, 105, 106, 107] (by decide +kernel) (by decide +kernel)
set_option maxRecDepth 20000 in
theorem gX5_carrySteps_X5_stepsUpTo : GoodIn wsX5_carrySteps (wsV RX5 146 RX5 yX5_stepsUpTo wsX5_stepsUpTo) := goodIn_app (goodIn_of _ (by decide +kernel)) ggX5_carrySteps_X5_stepsUpTo
theorem dX5_carrySteps_0 : decode cX5_carrySteps 0 = .ok (.iload_n 1, 1) := by decide +kernel
theorem dX5_carrySteps_1 : decode cX5_carrySteps 1 = .ok (.iconst 1, 1) := by decide +kernel
theorem dX5_carrySteps_2 : decode cX5_carrySteps 2 = .ok (.if_icmp .lt 9, 3) := by decide +kernel
theorem dX5_carrySteps_5 : decode cX5_carrySteps 5 = .ok (.iload_n 1, 1) := by decide +kernel
theorem dX5_carrySteps_6 : decode cX5_carrySteps 6 = .ok (.bipush 99, 2) := by decide +kernel
theorem dX5_carrySteps_8 : decode cX5_carrySteps 8 = .ok (.if_icmp .le 5, 3) := by decide +kernel
theorem dX5_carrySteps_11 : decode cX5_carrySteps 11 = .ok (.iconst (-1), 1) := by decide +kernel
theorem dX5_carrySteps_12 : decode cX5_carrySteps 12 = .ok (.ireturn, 1) := by decide +kernel
theorem dX5_carrySteps_13 : decode cX5_carrySteps 13 = .ok (.aload_n 0, 1) := by decide +kernel
theorem dX5_carrySteps_14 : decode cX5_carrySteps 14 = .ok (.getfield 55, 3) := by decide +kernel
theorem dX5_carrySteps_17 : decode cX5_carrySteps 17 = .ok (.ifCond .eq 11, 3) := by decide +kernel
theorem dX5_carrySteps_20 : decode cX5_carrySteps 20 = .ok (.aload_n 0, 1) := by decide +kernel
theorem dX5_carrySteps_21 : decode cX5_carrySteps 21 = .ok (.iload_n 1, 1) := by decide +kernel
theorem dX5_carrySteps_22 : decode cX5_carrySteps 22 = .ok (.invokevirtual 146, 3) := by decide +kernel
theorem dX5_carrySteps_25 : decode cX5_carrySteps 25 = .ok (.goto 5, 3) := by decide +kernel
theorem dX5_carrySteps_28 : decode cX5_carrySteps 28 = .ok (.bipush (-2), 2) := by decide +kernel
theorem dX5_carrySteps_30 : decode cX5_carrySteps 30 = .ok (.ireturn, 1) := by decide +kernel
set_option maxRecDepth 20000 in
theorem ggX5_stepsUpTo_X3_takeFirst : GoodIn wsX5_stepsUpTo wsX3_takeFirst := goodIn_r _ [8, 9, 10, 11, 101, 102, 103] (by decide +kernel) (by decide +kernel)
set_option maxRecDepth 20000 in
theorem gX5_stepsUpTo_X3_takeFirst : GoodIn wsX5_stepsUpTo (wsV RX5 149 RX3 yX3_takeFirst wsX3_takeFirst) := goodIn_app (goodIn_of _ (by decide +kernel)) ggX5_stepsUpTo_X3_takeFirst
set_option maxRecDepth 20000 in
theorem ggX5_stepsUpTo_X5_readIn : GoodIn wsX5_stepsUpTo wsX5_readIn := goodIn_r _ [16, 3, 1, 2, 17, 18, 19, 15, 20, 21, 22, 23, 24, 25, 26, 27, 28, 29, 30, 31, 32, 33, 34, 35, 36, 37, 38, 39, 40, 41, 42, 43, 44, 45, 46, 47, 48, 49, 50, 51, 52, 53, 54, 55, 56, 57, 58, 59, 7, 60, 10, 11, 61, 62, 63, 64, 86, 87, 88, 89, 90, 91, 92, 93, 94, 95, 96, 97, 98, 99, 100, 101, 102, 103] (by decide +kernel) (by decide +kernel)
set_option maxRecDepth 20000 in
theorem gX5_stepsUpTo_X5_readIn : GoodIn wsX5_stepsUpTo (wsV RX5 130 RX5 yX5_readIn wsX5_readIn) := goodIn_app (goodIn_of _ (by decide +kernel)) ggX5_stepsUpTo_X5_readIn
set_option maxRecDepth 20000 in
theorem ggX5_stepsUpTo_X3_size : GoodIn wsX5_stepsUpTo wsX3_size := goodIn_r _ [68, 10, 9, 101, 102, 103] (by decide +kernel) (by decide +kernel)
set_option maxRecDepth 20000 in
theorem gX5_stepsUpTo_X3_size : GoodIn wsX5_stepsUpTo (wsV RX5 105 RX3 yX3_size wsX3_size) := goodIn_app (goodIn_of _ (by decide +kernel)) ggX5_stepsUpTo_X3_size
set_option maxRecDepth 20000 in
theorem ggX5_stepsUpTo_X5_endMove : GoodIn wsX5_stepsUpTo wsX5_endMove := goodIn_r _ [72, 3, 21, 1, 73, 74, 75, 76, 29, 77, 78, 79, 80, 81, 36, 82, 83, 84, 85, 55, 86, 87, 88, 89, 90, 91, 92, 93, 94, 95, 96, 97, 98, 99, 100] (by decide +kernel) (by decide +kernel)
set_option maxRecDepth 20000 in
theorem gX5_stepsUpTo_X5_endMove : GoodIn wsX5_stepsUpTo (wsV RX5 143 RX5 yX5_endMove wsX5_endMove) := goodIn_app (goodIn_of _ (by decide +kernel)) ggX5_stepsUpTo_X5_endMove
theorem dX5_stepsUpTo_0 : decode cX5_stepsUpTo 0 = .ok (.iconst 0, 1) := by decide +kernel
theorem dX5_stepsUpTo_1 : decode cX5_stepsUpTo 1 = .ok (.istore_n 2, 1) := by decide +kernel
theorem dX5_stepsUpTo_2 : decode cX5_stepsUpTo 2 = .ok (.aload_n 0, 1) := by decide +kernel
theorem dX5_stepsUpTo_3 : decode cX5_stepsUpTo 3 = .ok (.getfield 55, 3) := by decide +kernel
theorem dX5_stepsUpTo_6 : decode cX5_stepsUpTo 6 = .ok (.ifCond .eq 68, 3) := by decide +kernel
theorem dX5_stepsUpTo_9 : decode cX5_stepsUpTo 9 = .ok (.iload_n 2, 1) := by decide +kernel
theorem dX5_stepsUpTo_10 : decode cX5_stepsUpTo 10 = .ok (.iload_n 1, 1) := by decide +kernel
theorem dX5_stepsUpTo_11 : decode cX5_stepsUpTo 11 = .ok (.if_icmp .ge 63, 3) := by decide +kernel
theorem dX5_stepsUpTo_14 : decode cX5_stepsUpTo 14 = .ok (.aload_n 0, 1) := by decide +kernel
theorem dX5_stepsUpTo_15 : decode cX5_stepsUpTo 15 = .ok (.getfield 25, 3) := by decide +kernel
theorem dX5_stepsUpTo_18 : decode cX5_stepsUpTo 18 = .ok (.invokevirtual 149, 3) := by decide +kernel
theorem dX5_stepsUpTo_21 : decode cX5_stepsUpTo 21 = .ok (.istore_n 3, 1) := by decide +kernel
theorem dX5_stepsUpTo_22 : decode cX5_stepsUpTo 22 = .ok (.aload_n 0, 1) := by decide +kernel
theorem dX5_stepsUpTo_23 : decode cX5_stepsUpTo 23 = .ok (.aload_n 0, 1) := by decide +kernel
theorem dX5_stepsUpTo_24 : decode cX5_stepsUpTo 24 = .ok (.getfield 18, 3) := by decide +kernel
theorem dX5_stepsUpTo_27 : decode cX5_stepsUpTo 27 = .ok (.getfield 137, 3) := by decide +kernel
theorem dX5_stepsUpTo_30 : decode cX5_stepsUpTo 30 = .ok (.iload_n 3, 1) := by decide +kernel
theorem dX5_stepsUpTo_31 : decode cX5_stepsUpTo 31 = .ok (.iconst 2, 1) := by decide +kernel
theorem dX5_stepsUpTo_32 : decode cX5_stepsUpTo 32 = .ok (.imul, 1) := by decide +kernel
theorem dX5_stepsUpTo_33 : decode cX5_stepsUpTo 33 = .ok (.invokevirtual 130, 3) := by decide +kernel
theorem dX5_stepsUpTo_36 : decode cX5_stepsUpTo 36 = .ok (.pop, 1) := by decide +kernel
theorem dX5_stepsUpTo_37 : decode cX5_stepsUpTo 37 = .ok (.aload_n 0, 1) := by decide +kernel
theorem dX5_stepsUpTo_38 : decode cX5_stepsUpTo 38 = .ok (.aload_n 0, 1) := by decide +kernel
theorem dX5_stepsUpTo_39 : decode cX5_stepsUpTo 39 = .ok (.getfield 18, 3) := by decide +kernel
theorem dX5_stepsUpTo_42 : decode cX5_stepsUpTo 42 = .ok (.getfield 137, 3) := by decide +kernel
theorem dX5_stepsUpTo_45 : decode cX5_stepsUpTo 45 = .ok (.iload_n 3, 1) := by decide +kernel
theorem dX5_stepsUpTo_46 : decode cX5_stepsUpTo 46 = .ok (.iconst 2, 1) := by decide +kernel
theorem dX5_stepsUpTo_47 : decode cX5_stepsUpTo 47 = .ok (.imul, 1) := by decide +kernel
theorem dX5_stepsUpTo_48 : decode cX5_stepsUpTo 48 = .ok (.iconst 1, 1) := by decide +kernel
theorem dX5_stepsUpTo_49 : decode cX5_stepsUpTo 49 = .ok (.iadd, 1) := by decide +kernel
theorem dX5_stepsUpTo_50 : decode cX5_stepsUpTo 50 = .ok (.invokevirtual 130, 3) := by decide +kernel
theorem dX5_stepsUpTo_53 : decode cX5_stepsUpTo 53 = .ok (.pop, 1) := by decide +kernel
theorem dX5_stepsUpTo_54 : decode cX5_stepsUpTo 54 = .ok (.aload_n 0, 1) := by decide +kernel
theorem dX5_stepsUpTo_55 : decode cX5_stepsUpTo 55 = .ok (.getfield 25, 3) := by decide +kernel
theorem dX5_stepsUpTo_58 : decode cX5_stepsUpTo 58 = .ok (.invokevirtual 105, 3) := by decide +kernel
theorem dX5_stepsUpTo_61 : decode cX5_stepsUpTo 61 = .ok (.ifCond .ne 7, 3) := by decide +kernel
theorem dX5_stepsUpTo_64 : decode cX5_stepsUpTo 64 = .ok (.aload_n 0, 1) := by decide +kernel
theorem dX5_stepsUpTo_65 : decode cX5_stepsUpTo 65 = .ok (.invokevirtual 143, 3) := by decide +kernel
theorem dX5_stepsUpTo_68 : decode cX5_stepsUpTo 68 = .ok (.iinc 2 1, 3) := by decide +kernel
theorem dX5_stepsUpTo_71 : decode cX5_stepsUpTo 71 = .ok (.goto (-69), 3) := by decide +kernel
theorem dX5_stepsUpTo_74 : decode cX5_stepsUpTo 74 = .ok (.iload_n 2, 1) := by decide +kernel
theorem dX5_stepsUpTo_75 : decode cX5_stepsUpTo 75 = .ok (.ireturn, 1) := by decide +kernel
set_option maxRecDepth 20000 in
theorem ggX5_endMove_X0_emptyHalf : GoodIn wsX5_endMove wsX0_emptyHalf := goodIn_r _ [9, 10, 11, 12, 8, 13, 14, 30, 31, 32, 33, 34] (by decide +kernel) (by decide +kernel)
set_option maxRecDepth 20000 in
theorem gX5_endMove_X0_emptyHalf : GoodIn wsX5_endMove (wsV RX5 152 RX0 yX0_emptyHalf wsX0_emptyHalf) := goodIn_app (goodIn_of _ (by decide +kernel)) ggX5_endMove_X0_emptyHalf
set_option maxRecDepth 20000 in
theorem ggX5_endMove_X0_sweepFloor : GoodIn wsX5_endMove wsX0_sweepFloor := goodIn_r _ [18, 19, 10, 11, 12, 8, 13, 14, 30, 31, 32, 33, 34] (by decide +kernel) (by decide +kernel)
set_option maxRecDepth 20000 in
theorem gX5_endMove_X0_sweepFloor : GoodIn wsX5_endMove (wsV RX5 156 RX0 yX0_sweepFloor wsX0_sweepFloor) := goodIn_app (goodIn_of _ (by decide +kernel)) ggX5_endMove_X0_sweepFloor
theorem dX5_endMove_0 : decode cX5_endMove 0 = .ok (.aload_n 0, 1) := by decide +kernel
theorem dX5_endMove_1 : decode cX5_endMove 1 = .ok (.getfield 18, 3) := by decide +kernel
theorem dX5_endMove_4 : decode cX5_endMove 4 = .ok (.iconst 1, 1) := by decide +kernel
theorem dX5_endMove_5 : decode cX5_endMove 5 = .ok (.aload_n 0, 1) := by decide +kernel
theorem dX5_endMove_6 : decode cX5_endMove 6 = .ok (.getfield 59, 3) := by decide +kernel
theorem dX5_endMove_9 : decode cX5_endMove 9 = .ok (.isub, 1) := by decide +kernel
theorem dX5_endMove_10 : decode cX5_endMove 10 = .ok (.invokevirtual 152, 3) := by decide +kernel
theorem dX5_endMove_13 : decode cX5_endMove 13 = .ok (.aload_n 0, 1) := by decide +kernel
theorem dX5_endMove_14 : decode cX5_endMove 14 = .ok (.getfield 18, 3) := by decide +kernel
theorem dX5_endMove_17 : decode cX5_endMove 17 = .ok (.invokevirtual 156, 3) := by decide +kernel
theorem dX5_endMove_20 : decode cX5_endMove 20 = .ok (.aload_n 0, 1) := by decide +kernel
theorem dX5_endMove_21 : decode cX5_endMove 21 = .ok (.iconst 0, 1) := by decide +kernel
theorem dX5_endMove_22 : decode cX5_endMove 22 = .ok (.putfield 55, 3) := by decide +kernel
theorem dX5_endMove_25 : decode cX5_endMove 25 = .ok (.aload_n 0, 1) := by decide +kernel
theorem dX5_endMove_26 : decode cX5_endMove 26 = .ok (.dup, 1) := by decide +kernel
theorem dX5_endMove_27 : decode cX5_endMove 27 = .ok (.getfield 68, 3) := by decide +kernel
theorem dX5_endMove_30 : decode cX5_endMove 30 = .ok (.iconst 1, 1) := by decide +kernel
theorem dX5_endMove_31 : decode cX5_endMove 31 = .ok (.iadd, 1) := by decide +kernel
theorem dX5_endMove_32 : decode cX5_endMove 32 = .ok (.putfield 68, 3) := by decide +kernel
theorem dX5_endMove_35 : decode cX5_endMove 35 = .ok (.return_, 1) := by decide +kernel
set_option maxRecDepth 20000 in
theorem ggX5_loseNote_X5_isThing : GoodIn wsX5_loseNote wsX5_isThing := goodIn_r _ [7, 8, 52, 53, 54, 55, 56, 57, 58, 59, 60, 61] (by decide +kernel) (by decide +kernel)
set_option maxRecDepth 20000 in
theorem gX5_loseNote_X5_isThing : GoodIn wsX5_loseNote (wsV RX5 159 RX5 yX5_isThing wsX5_isThing) := goodIn_app (goodIn_of _ (by decide +kernel)) ggX5_loseNote_X5_isThing
set_option maxRecDepth 20000 in
theorem ggX5_loseNote_X5_firstWithNote : GoodIn wsX5_loseNote wsX5_firstWithNote := goodIn_r _ [12, 1, 13, 14, 15, 16, 17, 18, 19, 20, 21, 22, 23, 24, 25, 26, 27, 28, 52, 53, 54, 55, 56, 57, 58, 59, 60, 61, 62, 63, 64, 65, 66] (by decide +kernel) (by decide +kernel)
set_option maxRecDepth 20000 in
theorem gX5_loseNote_X5_firstWithNote : GoodIn wsX5_loseNote (wsV RX5 162 RX5 yX5_firstWithNote wsX5_firstWithNote) := goodIn_app (goodIn_of _ (by decide +kernel)) ggX5_loseNote_X5_firstWithNote
set_option maxRecDepth 20000 in
theorem ggX5_loseNote_X5_freeInHalf : GoodIn wsX5_loseNote wsX5_freeInHalf := goodIn_r _ [32, 33, 52, 53, 54, 55, 56, 57, 58, 59, 60, 61] (by decide +kernel) (by decide +kernel)
set_option maxRecDepth 20000 in
theorem gX5_loseNote_X5_freeInHalf : GoodIn wsX5_loseNote (wsV RX5 99 RX5 yX5_freeInHalf wsX5_freeInHalf) := goodIn_app (goodIn_of _ (by decide +kernel)) ggX5_loseNote_X5_freeInHalf
set_option maxRecDepth 20000 in
theorem ggX5_loseNote_X5_roomKept : GoodIn wsX5_loseNote wsX5_roomKept := goodIn_r _ [37, 38, 39, 1, 40, 41, 42, 6, 43, 24, 25, 26, 16, 27, 28, 19, 20, 21, 22, 23, 44, 45, 46, 47, 52, 53, 54, 55, 56, 57, 58, 59, 60, 61, 62, 63, 64, 65, 66] (by decide +kernel) (by decide +kernel)
set_option maxRecDepth 20000 in
theorem gX5_loseNote_X5_roomKept : GoodIn wsX5_loseNote (wsV RX5 108 RX5 yX5_roomKept wsX5_roomKept) := goodIn_app (goodIn_of _ (by decide +kernel)) ggX5_loseNote_X5_roomKept
set_option maxRecDepth 20000 in
theorem ggX5_loseNote_X0_sizeAt : GoodIn wsX5_loseNote wsX0_sizeAt := goodIn_r _ [47, 23, 19, 20, 21, 16, 22, 62, 63, 64, 65, 66] (by decide +kernel) (by decide +kernel)
set_option maxRecDepth 20000 in
theorem gX5_loseNote_X0_sizeAt : GoodIn wsX5_loseNote (wsV RX5 82 RX0 yX0_sizeAt wsX0_sizeAt) := goodIn_app (goodIn_of _ (by decide +kernel)) ggX5_loseNote_X0_sizeAt
set_option maxRecDepth 20000 in
theorem ggX5_loseNote_X0_loseNoteAt : GoodIn wsX5_loseNote wsX0_loseNoteAt := goodIn_r _ [51, 28, 19, 20, 21, 16, 22, 23, 62, 63, 64, 65, 66] (by decide +kernel) (by decide +kernel)
set_option maxRecDepth 20000 in
theorem gX5_loseNote_X0_loseNoteAt : GoodIn wsX5_loseNote (wsV RX5 165 RX0 yX0_loseNoteAt wsX0_loseNoteAt) := goodIn_app (goodIn_of _ (by decide +kernel)) ggX5_loseNote_X0_loseNoteAt
theorem dX5_loseNote_0 : decode cX5_loseNote 0 = .ok (.aload_n 0, 1) := by decide +kernel
theorem dX5_loseNote_1 : decode cX5_loseNote 1 = .ok (.iload_n 1, 1) := by decide +kernel
theorem dX5_loseNote_2 : decode cX5_loseNote 2 = .ok (.invokevirtual 159, 3) := by decide +kernel
theorem dX5_loseNote_5 : decode cX5_loseNote 5 = .ok (.ifCond .ne 5, 3) := by decide +kernel
theorem dX5_loseNote_8 : decode cX5_loseNote 8 = .ok (.iconst (-1), 1) := by decide +kernel
theorem dX5_loseNote_9 : decode cX5_loseNote 9 = .ok (.ireturn, 1) := by decide +kernel
theorem dX5_loseNote_10 : decode cX5_loseNote 10 = .ok (.aload_n 0, 1) := by decide +kernel
theorem dX5_loseNote_11 : decode cX5_loseNote 11 = .ok (.iload_n 1, 1) := by decide +kernel
theorem dX5_loseNote_12 : decode cX5_loseNote 12 = .ok (.invokevirtual 162, 3) := by decide +kernel
theorem dX5_loseNote_15 : decode cX5_loseNote 15 = .ok (.istore_n 2, 1) := by decide +kernel
theorem dX5_loseNote_16 : decode cX5_loseNote 16 = .ok (.iload_n 2, 1) := by decide +kernel
theorem dX5_loseNote_17 : decode cX5_loseNote 17 = .ok (.sipush 300, 3) := by decide +kernel
theorem dX5_loseNote_20 : decode cX5_loseNote 20 = .ok (.if_icmp .ne 6, 3) := by decide +kernel
theorem dX5_loseNote_23 : decode cX5_loseNote 23 = .ok (.bipush (-2), 2) := by decide +kernel
theorem dX5_loseNote_25 : decode cX5_loseNote 25 = .ok (.ireturn, 1) := by decide +kernel
theorem dX5_loseNote_26 : decode cX5_loseNote 26 = .ok (.aload_n 0, 1) := by decide +kernel
theorem dX5_loseNote_27 : decode cX5_loseNote 27 = .ok (.invokevirtual 99, 3) := by decide +kernel
theorem dX5_loseNote_30 : decode cX5_loseNote 30 = .ok (.aload_n 0, 1) := by decide +kernel
theorem dX5_loseNote_31 : decode cX5_loseNote 31 = .ok (.invokevirtual 108, 3) := by decide +kernel
theorem dX5_loseNote_34 : decode cX5_loseNote 34 = .ok (.aload_n 0, 1) := by decide +kernel
theorem dX5_loseNote_35 : decode cX5_loseNote 35 = .ok (.getfield 18, 3) := by decide +kernel
theorem dX5_loseNote_38 : decode cX5_loseNote 38 = .ok (.iload_n 2, 1) := by decide +kernel
theorem dX5_loseNote_39 : decode cX5_loseNote 39 = .ok (.invokevirtual 82, 3) := by decide +kernel
theorem dX5_loseNote_42 : decode cX5_loseNote 42 = .ok (.iadd, 1) := by decide +kernel
theorem dX5_loseNote_43 : decode cX5_loseNote 43 = .ok (.if_icmp .ge 6, 3) := by decide +kernel
theorem dX5_loseNote_46 : decode cX5_loseNote 46 = .ok (.bipush (-3), 2) := by decide +kernel
theorem dX5_loseNote_48 : decode cX5_loseNote 48 = .ok (.ireturn, 1) := by decide +kernel
theorem dX5_loseNote_49 : decode cX5_loseNote 49 = .ok (.aload_n 0, 1) := by decide +kernel
theorem dX5_loseNote_50 : decode cX5_loseNote 50 = .ok (.getfield 18, 3) := by decide +kernel
theorem dX5_loseNote_53 : decode cX5_loseNote 53 = .ok (.iload_n 2, 1) := by decide +kernel
theorem dX5_loseNote_54 : decode cX5_loseNote 54 = .ok (.invokevirtual 165, 3) := by decide +kernel
theorem dX5_loseNote_57 : decode cX5_loseNote 57 = .ok (.aload_n 0, 1) := by decide +kernel
theorem dX5_loseNote_58 : decode cX5_loseNote 58 = .ok (.dup, 1) := by decide +kernel
theorem dX5_loseNote_59 : decode cX5_loseNote 59 = .ok (.getfield 65, 3) := by decide +kernel
theorem dX5_loseNote_62 : decode cX5_loseNote 62 = .ok (.iconst 1, 1) := by decide +kernel
theorem dX5_loseNote_63 : decode cX5_loseNote 63 = .ok (.iadd, 1) := by decide +kernel
theorem dX5_loseNote_64 : decode cX5_loseNote 64 = .ok (.putfield 65, 3) := by decide +kernel
theorem dX5_loseNote_67 : decode cX5_loseNote 67 = .ok (.iload_n 2, 1) := by decide +kernel
theorem dX5_loseNote_68 : decode cX5_loseNote 68 = .ok (.ireturn, 1) := by decide +kernel
set_option maxRecDepth 20000 in
theorem ggX5_firstWithNote_X0_isOf : GoodIn wsX5_firstWithNote wsX0_isOf := goodIn_r _ [6, 7, 8, 9, 10, 5, 11, 12, 28, 29, 30, 31, 32] (by decide +kernel) (by decide +kernel)
set_option maxRecDepth 20000 in
theorem gX5_firstWithNote_X0_isOf : GoodIn wsX5_firstWithNote (wsV RX5 85 RX0 yX0_isOf wsX0_isOf) := goodIn_app (goodIn_of _ (by decide +kernel)) ggX5_firstWithNote_X0_isOf
set_option maxRecDepth 20000 in
theorem ggX5_firstWithNote_X0_noteAt : GoodIn wsX5_firstWithNote wsX0_noteAt := goodIn_r _ [16, 17, 8, 9, 10, 5, 11, 12, 28, 29, 30, 31, 32] (by decide +kernel) (by decide +kernel)
set_option maxRecDepth 20000 in
theorem gX5_firstWithNote_X0_noteAt : GoodIn wsX5_firstWithNote (wsV RX5 79 RX0 yX0_noteAt wsX0_noteAt) := goodIn_app (goodIn_of _ (by decide +kernel)) ggX5_firstWithNote_X0_noteAt
theorem dX5_firstWithNote_0 : decode cX5_firstWithNote 0 = .ok (.iconst 0, 1) := by decide +kernel
theorem dX5_firstWithNote_1 : decode cX5_firstWithNote 1 = .ok (.istore_n 2, 1) := by decide +kernel
