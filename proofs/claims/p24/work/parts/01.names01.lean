set_option maxRecDepth 20000 in
theorem ggX0_init_J7_fill_53178 : GoodIn wsX0_init wsJ7_fill_53178 := goodIn_r _ [13] (by decide +kernel) (by decide +kernel)
set_option maxRecDepth 20000 in
theorem gX0_init_J7_fill_53178 : GoodIn wsX0_init (va_wsS RX0 27 yJ7_fill_53178 wsJ7_fill_53178) := goodIn_app (goodIn_of _ (by decide +kernel)) ggX0_init_J7_fill_53178
theorem dX0_init_0 : decode cX0_init 0 = .ok (.aload_n 0, 1) := by decide +kernel
theorem dX0_init_1 : decode cX0_init 1 = .ok (.invokespecial 3, 3) := by decide +kernel
theorem dX0_init_4 : decode cX0_init 4 = .ok (.aload_n 0, 1) := by decide +kernel
theorem dX0_init_5 : decode cX0_init 5 = .ok (.sipush 260, 3) := by decide +kernel
theorem dX0_init_8 : decode cX0_init 8 = .ok (.newarray .int, 2) := by decide +kernel
theorem dX0_init_10 : decode cX0_init 10 = .ok (.putfield 9, 3) := by decide +kernel
theorem dX0_init_13 : decode cX0_init 13 = .ok (.aload_n 0, 1) := by decide +kernel
theorem dX0_init_14 : decode cX0_init 14 = .ok (.sipush 260, 3) := by decide +kernel
theorem dX0_init_17 : decode cX0_init 17 = .ok (.newarray .int, 2) := by decide +kernel
theorem dX0_init_19 : decode cX0_init 19 = .ok (.putfield 15, 3) := by decide +kernel
theorem dX0_init_22 : decode cX0_init 22 = .ok (.aload_n 0, 1) := by decide +kernel
theorem dX0_init_23 : decode cX0_init 23 = .ok (.sipush 260, 3) := by decide +kernel
theorem dX0_init_26 : decode cX0_init 26 = .ok (.newarray .int, 2) := by decide +kernel
theorem dX0_init_28 : decode cX0_init 28 = .ok (.putfield 18, 3) := by decide +kernel
theorem dX0_init_31 : decode cX0_init 31 = .ok (.aload_n 0, 1) := by decide +kernel
theorem dX0_init_32 : decode cX0_init 32 = .ok (.sipush 260, 3) := by decide +kernel
theorem dX0_init_35 : decode cX0_init 35 = .ok (.newarray .int, 2) := by decide +kernel
theorem dX0_init_37 : decode cX0_init 37 = .ok (.putfield 21, 3) := by decide +kernel
theorem dX0_init_40 : decode cX0_init 40 = .ok (.aload_n 0, 1) := by decide +kernel
theorem dX0_init_41 : decode cX0_init 41 = .ok (.sipush 520, 3) := by decide +kernel
theorem dX0_init_44 : decode cX0_init 44 = .ok (.newarray .int, 2) := by decide +kernel
theorem dX0_init_46 : decode cX0_init 46 = .ok (.putfield 24, 3) := by decide +kernel
theorem dX0_init_49 : decode cX0_init 49 = .ok (.aload_n 0, 1) := by decide +kernel
theorem dX0_init_50 : decode cX0_init 50 = .ok (.getfield 18, 3) := by decide +kernel
theorem dX0_init_53 : decode cX0_init 53 = .ok (.sipush 300, 3) := by decide +kernel
theorem dX0_init_56 : decode cX0_init 56 = .ok (.invokestatic 27, 3) := by decide +kernel
theorem dX0_init_59 : decode cX0_init 59 = .ok (.aload_n 0, 1) := by decide +kernel
theorem dX0_init_60 : decode cX0_init 60 = .ok (.getfield 24, 3) := by decide +kernel
theorem dX0_init_63 : decode cX0_init 63 = .ok (.sipush 300, 3) := by decide +kernel
theorem dX0_init_66 : decode cX0_init 66 = .ok (.invokestatic 27, 3) := by decide +kernel
theorem dX0_init_69 : decode cX0_init 69 = .ok (.return_, 1) := by decide +kernel
theorem dX0_become_0 : decode cX0_become 0 = .ok (.aload_n 1, 1) := by decide +kernel
theorem dX0_become_1 : decode cX0_become 1 = .ok (.getfield 9, 3) := by decide +kernel
theorem dX0_become_4 : decode cX0_become 4 = .ok (.iconst 0, 1) := by decide +kernel
theorem dX0_become_5 : decode cX0_become 5 = .ok (.aload_n 0, 1) := by decide +kernel
theorem dX0_become_6 : decode cX0_become 6 = .ok (.getfield 9, 3) := by decide +kernel
theorem dX0_become_9 : decode cX0_become 9 = .ok (.iconst 0, 1) := by decide +kernel
theorem dX0_become_10 : decode cX0_become 10 = .ok (.sipush 260, 3) := by decide +kernel
theorem dX0_become_13 : decode cX0_become 13 = .ok (.invokestatic 33, 3) := by decide +kernel
theorem dX0_become_16 : decode cX0_become 16 = .ok (.aload_n 1, 1) := by decide +kernel
theorem dX0_become_17 : decode cX0_become 17 = .ok (.getfield 15, 3) := by decide +kernel
theorem dX0_become_20 : decode cX0_become 20 = .ok (.iconst 0, 1) := by decide +kernel
theorem dX0_become_21 : decode cX0_become 21 = .ok (.aload_n 0, 1) := by decide +kernel
theorem dX0_become_22 : decode cX0_become 22 = .ok (.getfield 15, 3) := by decide +kernel
theorem dX0_become_25 : decode cX0_become 25 = .ok (.iconst 0, 1) := by decide +kernel
theorem dX0_become_26 : decode cX0_become 26 = .ok (.sipush 260, 3) := by decide +kernel
theorem dX0_become_29 : decode cX0_become 29 = .ok (.invokestatic 33, 3) := by decide +kernel
theorem dX0_become_32 : decode cX0_become 32 = .ok (.aload_n 1, 1) := by decide +kernel
theorem dX0_become_33 : decode cX0_become 33 = .ok (.getfield 18, 3) := by decide +kernel
theorem dX0_become_36 : decode cX0_become 36 = .ok (.iconst 0, 1) := by decide +kernel
theorem dX0_become_37 : decode cX0_become 37 = .ok (.aload_n 0, 1) := by decide +kernel
theorem dX0_become_38 : decode cX0_become 38 = .ok (.getfield 18, 3) := by decide +kernel
theorem dX0_become_41 : decode cX0_become 41 = .ok (.iconst 0, 1) := by decide +kernel
theorem dX0_become_42 : decode cX0_become 42 = .ok (.sipush 260, 3) := by decide +kernel
theorem dX0_become_45 : decode cX0_become 45 = .ok (.invokestatic 33, 3) := by decide +kernel
theorem dX0_become_48 : decode cX0_become 48 = .ok (.aload_n 1, 1) := by decide +kernel
theorem dX0_become_49 : decode cX0_become 49 = .ok (.getfield 21, 3) := by decide +kernel
theorem dX0_become_52 : decode cX0_become 52 = .ok (.iconst 0, 1) := by decide +kernel
theorem dX0_become_53 : decode cX0_become 53 = .ok (.aload_n 0, 1) := by decide +kernel
theorem dX0_become_54 : decode cX0_become 54 = .ok (.getfield 21, 3) := by decide +kernel
theorem dX0_become_57 : decode cX0_become 57 = .ok (.iconst 0, 1) := by decide +kernel
theorem dX0_become_58 : decode cX0_become 58 = .ok (.sipush 260, 3) := by decide +kernel
theorem dX0_become_61 : decode cX0_become 61 = .ok (.invokestatic 33, 3) := by decide +kernel
theorem dX0_become_64 : decode cX0_become 64 = .ok (.aload_n 1, 1) := by decide +kernel
theorem dX0_become_65 : decode cX0_become 65 = .ok (.getfield 24, 3) := by decide +kernel
theorem dX0_become_68 : decode cX0_become 68 = .ok (.iconst 0, 1) := by decide +kernel
theorem dX0_become_69 : decode cX0_become 69 = .ok (.aload_n 0, 1) := by decide +kernel
theorem dX0_become_70 : decode cX0_become 70 = .ok (.getfield 24, 3) := by decide +kernel
theorem dX0_become_73 : decode cX0_become 73 = .ok (.iconst 0, 1) := by decide +kernel
theorem dX0_become_74 : decode cX0_become 74 = .ok (.sipush 520, 3) := by decide +kernel
theorem dX0_become_77 : decode cX0_become 77 = .ok (.invokestatic 33, 3) := by decide +kernel
theorem dX0_become_80 : decode cX0_become 80 = .ok (.return_, 1) := by decide +kernel
theorem dX0_isAt_0 : decode cX0_isAt 0 = .ok (.iload_n 1, 1) := by decide +kernel
theorem dX0_isAt_1 : decode cX0_isAt 1 = .ok (.ifCond .lt 23, 3) := by decide +kernel
theorem dX0_isAt_4 : decode cX0_isAt 4 = .ok (.iload_n 1, 1) := by decide +kernel
theorem dX0_isAt_5 : decode cX0_isAt 5 = .ok (.sipush 260, 3) := by decide +kernel
theorem dX0_isAt_8 : decode cX0_isAt 8 = .ok (.if_icmp .ge 16, 3) := by decide +kernel
theorem dX0_isAt_11 : decode cX0_isAt 11 = .ok (.aload_n 0, 1) := by decide +kernel
theorem dX0_isAt_12 : decode cX0_isAt 12 = .ok (.getfield 15, 3) := by decide +kernel
theorem dX0_isAt_15 : decode cX0_isAt 15 = .ok (.iload_n 1, 1) := by decide +kernel
theorem dX0_isAt_16 : decode cX0_isAt 16 = .ok (.iaload, 1) := by decide +kernel
theorem dX0_isAt_17 : decode cX0_isAt 17 = .ok (.ifCond .le 7, 3) := by decide +kernel
theorem dX0_isAt_20 : decode cX0_isAt 20 = .ok (.iconst 1, 1) := by decide +kernel
theorem dX0_isAt_21 : decode cX0_isAt 21 = .ok (.goto 4, 3) := by decide +kernel
theorem dX0_isAt_24 : decode cX0_isAt 24 = .ok (.iconst 0, 1) := by decide +kernel
theorem dX0_isAt_25 : decode cX0_isAt 25 = .ok (.ireturn, 1) := by decide +kernel
set_option maxRecDepth 20000 in
theorem ggX0_isOf_X0_isAt : GoodIn wsX0_isOf wsX0_isAt := goodIn_r _ [6, 7, 8, 9, 10, 11, 12] (by decide +kernel) (by decide +kernel)
set_option maxRecDepth 20000 in
theorem gX0_isOf_X0_isAt : GoodIn wsX0_isOf (wsV RX0 39 RX0 yX0_isAt wsX0_isAt) := goodIn_app (goodIn_of _ (by decide +kernel)) ggX0_isOf_X0_isAt
theorem dX0_isOf_0 : decode cX0_isOf 0 = .ok (.aload_n 0, 1) := by decide +kernel
theorem dX0_isOf_1 : decode cX0_isOf 1 = .ok (.iload_n 2, 1) := by decide +kernel
theorem dX0_isOf_2 : decode cX0_isOf 2 = .ok (.invokevirtual 39, 3) := by decide +kernel
theorem dX0_isOf_5 : decode cX0_isOf 5 = .ok (.ifCond .eq 17, 3) := by decide +kernel
theorem dX0_isOf_8 : decode cX0_isOf 8 = .ok (.aload_n 0, 1) := by decide +kernel
theorem dX0_isOf_9 : decode cX0_isOf 9 = .ok (.getfield 9, 3) := by decide +kernel
theorem dX0_isOf_12 : decode cX0_isOf 12 = .ok (.iload_n 2, 1) := by decide +kernel
theorem dX0_isOf_13 : decode cX0_isOf 13 = .ok (.iaload, 1) := by decide +kernel
theorem dX0_isOf_14 : decode cX0_isOf 14 = .ok (.iload_n 1, 1) := by decide +kernel
theorem dX0_isOf_15 : decode cX0_isOf 15 = .ok (.if_icmp .ne 7, 3) := by decide +kernel
theorem dX0_isOf_18 : decode cX0_isOf 18 = .ok (.iconst 1, 1) := by decide +kernel
theorem dX0_isOf_19 : decode cX0_isOf 19 = .ok (.goto 4, 3) := by decide +kernel
theorem dX0_isOf_22 : decode cX0_isOf 22 = .ok (.iconst 0, 1) := by decide +kernel
theorem dX0_isOf_23 : decode cX0_isOf 23 = .ok (.ireturn, 1) := by decide +kernel
set_option maxRecDepth 20000 in
theorem ggX0_thingAt_X0_isAt : GoodIn wsX0_thingAt wsX0_isAt := goodIn_r _ [6, 7, 8, 9, 10, 11, 12] (by decide +kernel) (by decide +kernel)
set_option maxRecDepth 20000 in
theorem gX0_thingAt_X0_isAt : GoodIn wsX0_thingAt (wsV RX0 39 RX0 yX0_isAt wsX0_isAt) := goodIn_app (goodIn_of _ (by decide +kernel)) ggX0_thingAt_X0_isAt
theorem dX0_thingAt_0 : decode cX0_thingAt 0 = .ok (.aload_n 0, 1) := by decide +kernel
theorem dX0_thingAt_1 : decode cX0_thingAt 1 = .ok (.iload_n 1, 1) := by decide +kernel
theorem dX0_thingAt_2 : decode cX0_thingAt 2 = .ok (.invokevirtual 39, 3) := by decide +kernel
theorem dX0_thingAt_5 : decode cX0_thingAt 5 = .ok (.ifCond .eq 12, 3) := by decide +kernel
theorem dX0_thingAt_8 : decode cX0_thingAt 8 = .ok (.aload_n 0, 1) := by decide +kernel
theorem dX0_thingAt_9 : decode cX0_thingAt 9 = .ok (.getfield 9, 3) := by decide +kernel
theorem dX0_thingAt_12 : decode cX0_thingAt 12 = .ok (.iload_n 1, 1) := by decide +kernel
theorem dX0_thingAt_13 : decode cX0_thingAt 13 = .ok (.iaload, 1) := by decide +kernel
theorem dX0_thingAt_14 : decode cX0_thingAt 14 = .ok (.goto 5, 3) := by decide +kernel
theorem dX0_thingAt_17 : decode cX0_thingAt 17 = .ok (.bipush (-9), 2) := by decide +kernel
theorem dX0_thingAt_19 : decode cX0_thingAt 19 = .ok (.ireturn, 1) := by decide +kernel
set_option maxRecDepth 20000 in
theorem ggX0_sizeAt_X0_isAt : GoodIn wsX0_sizeAt wsX0_isAt := goodIn_r _ [6, 1, 7, 8, 9, 10, 11] (by decide +kernel) (by decide +kernel)
set_option maxRecDepth 20000 in
theorem gX0_sizeAt_X0_isAt : GoodIn wsX0_sizeAt (wsV RX0 39 RX0 yX0_isAt wsX0_isAt) := goodIn_app (goodIn_of _ (by decide +kernel)) ggX0_sizeAt_X0_isAt
theorem dX0_sizeAt_0 : decode cX0_sizeAt 0 = .ok (.aload_n 0, 1) := by decide +kernel
theorem dX0_sizeAt_1 : decode cX0_sizeAt 1 = .ok (.iload_n 1, 1) := by decide +kernel
theorem dX0_sizeAt_2 : decode cX0_sizeAt 2 = .ok (.invokevirtual 39, 3) := by decide +kernel
theorem dX0_sizeAt_5 : decode cX0_sizeAt 5 = .ok (.ifCond .eq 12, 3) := by decide +kernel
theorem dX0_sizeAt_8 : decode cX0_sizeAt 8 = .ok (.aload_n 0, 1) := by decide +kernel
theorem dX0_sizeAt_9 : decode cX0_sizeAt 9 = .ok (.getfield 15, 3) := by decide +kernel
theorem dX0_sizeAt_12 : decode cX0_sizeAt 12 = .ok (.iload_n 1, 1) := by decide +kernel
theorem dX0_sizeAt_13 : decode cX0_sizeAt 13 = .ok (.iaload, 1) := by decide +kernel
theorem dX0_sizeAt_14 : decode cX0_sizeAt 14 = .ok (.goto 4, 3) := by decide +kernel
theorem dX0_sizeAt_17 : decode cX0_sizeAt 17 = .ok (.iconst 0, 1) := by decide +kernel
theorem dX0_sizeAt_18 : decode cX0_sizeAt 18 = .ok (.ireturn, 1) := by decide +kernel
set_option maxRecDepth 20000 in
theorem ggX0_noteAt_X0_isAt : GoodIn wsX0_noteAt wsX0_isAt := goodIn_r _ [6, 7, 8, 9, 10, 11, 12] (by decide +kernel) (by decide +kernel)
set_option maxRecDepth 20000 in
theorem gX0_noteAt_X0_isAt : GoodIn wsX0_noteAt (wsV RX0 39 RX0 yX0_isAt wsX0_isAt) := goodIn_app (goodIn_of _ (by decide +kernel)) ggX0_noteAt_X0_isAt
theorem dX0_noteAt_0 : decode cX0_noteAt 0 = .ok (.aload_n 0, 1) := by decide +kernel
theorem dX0_noteAt_1 : decode cX0_noteAt 1 = .ok (.iload_n 1, 1) := by decide +kernel
theorem dX0_noteAt_2 : decode cX0_noteAt 2 = .ok (.invokevirtual 39, 3) := by decide +kernel
theorem dX0_noteAt_5 : decode cX0_noteAt 5 = .ok (.ifCond .eq 12, 3) := by decide +kernel
theorem dX0_noteAt_8 : decode cX0_noteAt 8 = .ok (.aload_n 0, 1) := by decide +kernel
theorem dX0_noteAt_9 : decode cX0_noteAt 9 = .ok (.getfield 18, 3) := by decide +kernel
theorem dX0_noteAt_12 : decode cX0_noteAt 12 = .ok (.iload_n 1, 1) := by decide +kernel
theorem dX0_noteAt_13 : decode cX0_noteAt 13 = .ok (.iaload, 1) := by decide +kernel
theorem dX0_noteAt_14 : decode cX0_noteAt 14 = .ok (.goto 6, 3) := by decide +kernel
theorem dX0_noteAt_17 : decode cX0_noteAt 17 = .ok (.sipush 300, 3) := by decide +kernel
theorem dX0_noteAt_20 : decode cX0_noteAt 20 = .ok (.ireturn, 1) := by decide +kernel
set_option maxRecDepth 20000 in
theorem ggX0_isMarked_X0_isAt : GoodIn wsX0_isMarked wsX0_isAt := goodIn_r _ [6, 7, 8, 9, 10, 11, 12] (by decide +kernel) (by decide +kernel)
set_option maxRecDepth 20000 in
theorem gX0_isMarked_X0_isAt : GoodIn wsX0_isMarked (wsV RX0 39 RX0 yX0_isAt wsX0_isAt) := goodIn_app (goodIn_of _ (by decide +kernel)) ggX0_isMarked_X0_isAt
theorem dX0_isMarked_0 : decode cX0_isMarked 0 = .ok (.aload_n 0, 1) := by decide +kernel
theorem dX0_isMarked_1 : decode cX0_isMarked 1 = .ok (.iload_n 1, 1) := by decide +kernel
theorem dX0_isMarked_2 : decode cX0_isMarked 2 = .ok (.invokevirtual 39, 3) := by decide +kernel
theorem dX0_isMarked_5 : decode cX0_isMarked 5 = .ok (.ifCond .eq 17, 3) := by decide +kernel
theorem dX0_isMarked_8 : decode cX0_isMarked 8 = .ok (.aload_n 0, 1) := by decide +kernel
theorem dX0_isMarked_9 : decode cX0_isMarked 9 = .ok (.getfield 21, 3) := by decide +kernel
theorem dX0_isMarked_12 : decode cX0_isMarked 12 = .ok (.iload_n 1, 1) := by decide +kernel
theorem dX0_isMarked_13 : decode cX0_isMarked 13 = .ok (.iaload, 1) := by decide +kernel
theorem dX0_isMarked_14 : decode cX0_isMarked 14 = .ok (.iconst 1, 1) := by decide +kernel
theorem dX0_isMarked_15 : decode cX0_isMarked 15 = .ok (.if_icmp .ne 7, 3) := by decide +kernel
theorem dX0_isMarked_18 : decode cX0_isMarked 18 = .ok (.iconst 1, 1) := by decide +kernel
theorem dX0_isMarked_19 : decode cX0_isMarked 19 = .ok (.goto 4, 3) := by decide +kernel
theorem dX0_isMarked_22 : decode cX0_isMarked 22 = .ok (.iconst 0, 1) := by decide +kernel
theorem dX0_isMarked_23 : decode cX0_isMarked 23 = .ok (.ireturn, 1) := by decide +kernel
set_option maxRecDepth 20000 in
theorem ggX0_nameAt_X0_isAt : GoodIn wsX0_nameAt wsX0_isAt := goodIn_r _ [6, 7, 11, 12, 13, 14, 15] (by decide +kernel) (by decide +kernel)
set_option maxRecDepth 20000 in
theorem gX0_nameAt_X0_isAt : GoodIn wsX0_nameAt (wsV RX0 39 RX0 yX0_isAt wsX0_isAt) := goodIn_app (goodIn_of _ (by decide +kernel)) ggX0_nameAt_X0_isAt
set_option maxRecDepth 20000 in
theorem ggX0_nameAt_X7_isName : GoodIn wsX0_nameAt wsX7_isName := goodIn_r _ [10] (by decide +kernel) (by decide +kernel)
set_option maxRecDepth 20000 in
theorem gX0_nameAt_X7_isName_n43 : GoodIn wsX0_nameAt (wsX7_isName) := ggX0_nameAt_X7_isName
theorem dX0_nameAt_0 : decode cX0_nameAt 0 = .ok (.aload_n 0, 1) := by decide +kernel
theorem dX0_nameAt_1 : decode cX0_nameAt 1 = .ok (.iload_n 1, 1) := by decide +kernel
theorem dX0_nameAt_2 : decode cX0_nameAt 2 = .ok (.invokevirtual 39, 3) := by decide +kernel
theorem dX0_nameAt_5 : decode cX0_nameAt 5 = .ok (.ifCond .eq 23, 3) := by decide +kernel
theorem dX0_nameAt_8 : decode cX0_nameAt 8 = .ok (.iload_n 2, 1) := by decide +kernel
theorem dX0_nameAt_9 : decode cX0_nameAt 9 = .ok (.invokestatic 43, 3) := by decide +kernel
theorem dX0_nameAt_12 : decode cX0_nameAt 12 = .ok (.ifCond .eq 16, 3) := by decide +kernel
theorem dX0_nameAt_15 : decode cX0_nameAt 15 = .ok (.aload_n 0, 1) := by decide +kernel
theorem dX0_nameAt_16 : decode cX0_nameAt 16 = .ok (.getfield 24, 3) := by decide +kernel
theorem dX0_nameAt_19 : decode cX0_nameAt 19 = .ok (.iload_n 1, 1) := by decide +kernel
theorem dX0_nameAt_20 : decode cX0_nameAt 20 = .ok (.iconst 2, 1) := by decide +kernel
theorem dX0_nameAt_21 : decode cX0_nameAt 21 = .ok (.imul, 1) := by decide +kernel
theorem dX0_nameAt_22 : decode cX0_nameAt 22 = .ok (.iload_n 2, 1) := by decide +kernel
theorem dX0_nameAt_23 : decode cX0_nameAt 23 = .ok (.iadd, 1) := by decide +kernel
theorem dX0_nameAt_24 : decode cX0_nameAt 24 = .ok (.iaload, 1) := by decide +kernel
theorem dX0_nameAt_25 : decode cX0_nameAt 25 = .ok (.goto 6, 3) := by decide +kernel
theorem dX0_nameAt_28 : decode cX0_nameAt 28 = .ok (.sipush 300, 3) := by decide +kernel
theorem dX0_nameAt_31 : decode cX0_nameAt 31 = .ok (.ireturn, 1) := by decide +kernel
set_option maxRecDepth 20000 in
theorem ggX0_loseNoteAt_X0_isAt : GoodIn wsX0_loseNoteAt wsX0_isAt := goodIn_r _ [6, 7, 8, 9, 10, 11, 12] (by decide +kernel) (by decide +kernel)
set_option maxRecDepth 20000 in
theorem gX0_loseNoteAt_X0_isAt : GoodIn wsX0_loseNoteAt (wsV RX0 39 RX0 yX0_isAt wsX0_isAt) := goodIn_app (goodIn_of _ (by decide +kernel)) ggX0_loseNoteAt_X0_isAt
theorem dX0_loseNoteAt_0 : decode cX0_loseNoteAt 0 = .ok (.aload_n 0, 1) := by decide +kernel
theorem dX0_loseNoteAt_1 : decode cX0_loseNoteAt 1 = .ok (.iload_n 1, 1) := by decide +kernel
theorem dX0_loseNoteAt_2 : decode cX0_loseNoteAt 2 = .ok (.invokevirtual 39, 3) := by decide +kernel
theorem dX0_loseNoteAt_5 : decode cX0_loseNoteAt 5 = .ok (.ifCond .eq 12, 3) := by decide +kernel
theorem dX0_loseNoteAt_8 : decode cX0_loseNoteAt 8 = .ok (.aload_n 0, 1) := by decide +kernel
theorem dX0_loseNoteAt_9 : decode cX0_loseNoteAt 9 = .ok (.getfield 18, 3) := by decide +kernel
theorem dX0_loseNoteAt_12 : decode cX0_loseNoteAt 12 = .ok (.iload_n 1, 1) := by decide +kernel
theorem dX0_loseNoteAt_13 : decode cX0_loseNoteAt 13 = .ok (.sipush 300, 3) := by decide +kernel
theorem dX0_loseNoteAt_16 : decode cX0_loseNoteAt 16 = .ok (.iastore, 1) := by decide +kernel
theorem dX0_loseNoteAt_17 : decode cX0_loseNoteAt 17 = .ok (.return_, 1) := by decide +kernel
set_option maxRecDepth 20000 in
theorem ggX0_mark_X0_isAt : GoodIn wsX0_mark wsX0_isAt := goodIn_r _ [6, 7, 8, 9, 10, 11, 12] (by decide +kernel) (by decide +kernel)
set_option maxRecDepth 20000 in
theorem gX0_mark_X0_isAt : GoodIn wsX0_mark (wsV RX0 39 RX0 yX0_isAt wsX0_isAt) := goodIn_app (goodIn_of _ (by decide +kernel)) ggX0_mark_X0_isAt
theorem dX0_mark_0 : decode cX0_mark 0 = .ok (.aload_n 0, 1) := by decide +kernel
theorem dX0_mark_1 : decode cX0_mark 1 = .ok (.iload_n 1, 1) := by decide +kernel
theorem dX0_mark_2 : decode cX0_mark 2 = .ok (.invokevirtual 39, 3) := by decide +kernel
theorem dX0_mark_5 : decode cX0_mark 5 = .ok (.ifCond .eq 13, 3) := by decide +kernel
theorem dX0_mark_8 : decode cX0_mark 8 = .ok (.aload_n 0, 1) := by decide +kernel
theorem dX0_mark_9 : decode cX0_mark 9 = .ok (.getfield 21, 3) := by decide +kernel
theorem dX0_mark_12 : decode cX0_mark 12 = .ok (.iload_n 1, 1) := by decide +kernel
theorem dX0_mark_13 : decode cX0_mark 13 = .ok (.iaload, 1) := by decide +kernel
theorem dX0_mark_14 : decode cX0_mark 14 = .ok (.iconst 1, 1) := by decide +kernel
theorem dX0_mark_15 : decode cX0_mark 15 = .ok (.if_icmp .ne 5, 3) := by decide +kernel
theorem dX0_mark_18 : decode cX0_mark 18 = .ok (.iconst 0, 1) := by decide +kernel
theorem dX0_mark_19 : decode cX0_mark 19 = .ok (.ireturn, 1) := by decide +kernel
theorem dX0_mark_20 : decode cX0_mark 20 = .ok (.aload_n 0, 1) := by decide +kernel
theorem dX0_mark_21 : decode cX0_mark 21 = .ok (.getfield 21, 3) := by decide +kernel
theorem dX0_mark_24 : decode cX0_mark 24 = .ok (.iload_n 1, 1) := by decide +kernel
theorem dX0_mark_25 : decode cX0_mark 25 = .ok (.iconst 1, 1) := by decide +kernel
theorem dX0_mark_26 : decode cX0_mark 26 = .ok (.iastore, 1) := by decide +kernel
theorem dX0_mark_27 : decode cX0_mark 27 = .ok (.iconst 1, 1) := by decide +kernel
theorem dX0_mark_28 : decode cX0_mark 28 = .ok (.ireturn, 1) := by decide +kernel
set_option maxRecDepth 20000 in
theorem ggX0_setName_X0_isAt : GoodIn wsX0_setName wsX0_isAt := goodIn_r _ [6, 7, 11, 12, 13, 14, 15] (by decide +kernel) (by decide +kernel)
set_option maxRecDepth 20000 in
theorem gX0_setName_X0_isAt : GoodIn wsX0_setName (wsV RX0 39 RX0 yX0_isAt wsX0_isAt) := goodIn_app (goodIn_of _ (by decide +kernel)) ggX0_setName_X0_isAt
set_option maxRecDepth 20000 in
theorem ggX0_setName_X7_isName : GoodIn wsX0_setName wsX7_isName := goodIn_r _ [10] (by decide +kernel) (by decide +kernel)
set_option maxRecDepth 20000 in
theorem gX0_setName_X7_isName_n43 : GoodIn wsX0_setName (wsX7_isName) := ggX0_setName_X7_isName
theorem dX0_setName_0 : decode cX0_setName 0 = .ok (.aload_n 0, 1) := by decide +kernel
theorem dX0_setName_1 : decode cX0_setName 1 = .ok (.iload_n 1, 1) := by decide +kernel
theorem dX0_setName_2 : decode cX0_setName 2 = .ok (.invokevirtual 39, 3) := by decide +kernel
theorem dX0_setName_5 : decode cX0_setName 5 = .ok (.ifCond .eq 21, 3) := by decide +kernel
theorem dX0_setName_8 : decode cX0_setName 8 = .ok (.iload_n 2, 1) := by decide +kernel
theorem dX0_setName_9 : decode cX0_setName 9 = .ok (.invokestatic 43, 3) := by decide +kernel
theorem dX0_setName_12 : decode cX0_setName 12 = .ok (.ifCond .eq 14, 3) := by decide +kernel
theorem dX0_setName_15 : decode cX0_setName 15 = .ok (.aload_n 0, 1) := by decide +kernel
theorem dX0_setName_16 : decode cX0_setName 16 = .ok (.getfield 24, 3) := by decide +kernel
theorem dX0_setName_19 : decode cX0_setName 19 = .ok (.iload_n 1, 1) := by decide +kernel
theorem dX0_setName_20 : decode cX0_setName 20 = .ok (.iconst 2, 1) := by decide +kernel
theorem dX0_setName_21 : decode cX0_setName 21 = .ok (.imul, 1) := by decide +kernel
theorem dX0_setName_22 : decode cX0_setName 22 = .ok (.iload_n 2, 1) := by decide +kernel
theorem dX0_setName_23 : decode cX0_setName 23 = .ok (.iadd, 1) := by decide +kernel
theorem dX0_setName_24 : decode cX0_setName 24 = .ok (.iload_n 3, 1) := by decide +kernel
theorem dX0_setName_25 : decode cX0_setName 25 = .ok (.iastore, 1) := by decide +kernel
theorem dX0_setName_26 : decode cX0_setName 26 = .ok (.return_, 1) := by decide +kernel
theorem dX0_lay_0 : decode cX0_lay 0 = .ok (.iload_n 1, 1) := by decide +kernel
theorem dX0_lay_1 : decode cX0_lay 1 = .ok (.ifCond .lt 10, 3) := by decide +kernel
theorem dX0_lay_4 : decode cX0_lay 4 = .ok (.iload_n 1, 1) := by decide +kernel
theorem dX0_lay_5 : decode cX0_lay 5 = .ok (.sipush 260, 3) := by decide +kernel
theorem dX0_lay_8 : decode cX0_lay 8 = .ok (.if_icmp .lt 4, 3) := by decide +kernel
theorem dX0_lay_11 : decode cX0_lay 11 = .ok (.return_, 1) := by decide +kernel
theorem dX0_lay_12 : decode cX0_lay 12 = .ok (.aload_n 0, 1) := by decide +kernel
theorem dX0_lay_13 : decode cX0_lay 13 = .ok (.getfield 9, 3) := by decide +kernel
theorem dX0_lay_16 : decode cX0_lay 16 = .ok (.iload_n 1, 1) := by decide +kernel
theorem dX0_lay_17 : decode cX0_lay 17 = .ok (.iload_n 2, 1) := by decide +kernel
theorem dX0_lay_18 : decode cX0_lay 18 = .ok (.iastore, 1) := by decide +kernel
theorem dX0_lay_19 : decode cX0_lay 19 = .ok (.aload_n 0, 1) := by decide +kernel
theorem dX0_lay_20 : decode cX0_lay 20 = .ok (.getfield 15, 3) := by decide +kernel
theorem dX0_lay_23 : decode cX0_lay 23 = .ok (.iload_n 1, 1) := by decide +kernel
theorem dX0_lay_24 : decode cX0_lay 24 = .ok (.iload_n 3, 1) := by decide +kernel
theorem dX0_lay_25 : decode cX0_lay 25 = .ok (.iastore, 1) := by decide +kernel
theorem dX0_lay_26 : decode cX0_lay 26 = .ok (.aload_n 0, 1) := by decide +kernel
theorem dX0_lay_27 : decode cX0_lay 27 = .ok (.getfield 18, 3) := by decide +kernel
theorem dX0_lay_30 : decode cX0_lay 30 = .ok (.iload_n 1, 1) := by decide +kernel
theorem dX0_lay_31 : decode cX0_lay 31 = .ok (.sipush 300, 3) := by decide +kernel
theorem dX0_lay_34 : decode cX0_lay 34 = .ok (.iastore, 1) := by decide +kernel
theorem dX0_lay_35 : decode cX0_lay 35 = .ok (.aload_n 0, 1) := by decide +kernel
theorem dX0_lay_36 : decode cX0_lay 36 = .ok (.getfield 21, 3) := by decide +kernel
theorem dX0_lay_39 : decode cX0_lay 39 = .ok (.iload_n 1, 1) := by decide +kernel
theorem dX0_lay_40 : decode cX0_lay 40 = .ok (.iconst 0, 1) := by decide +kernel
theorem dX0_lay_41 : decode cX0_lay 41 = .ok (.iastore, 1) := by decide +kernel
theorem dX0_lay_42 : decode cX0_lay 42 = .ok (.aload_n 0, 1) := by decide +kernel
theorem dX0_lay_43 : decode cX0_lay 43 = .ok (.getfield 24, 3) := by decide +kernel
theorem dX0_lay_46 : decode cX0_lay 46 = .ok (.iload_n 1, 1) := by decide +kernel
theorem dX0_lay_47 : decode cX0_lay 47 = .ok (.iconst 2, 1) := by decide +kernel
theorem dX0_lay_48 : decode cX0_lay 48 = .ok (.imul, 1) := by decide +kernel
theorem dX0_lay_49 : decode cX0_lay 49 = .ok (.sipush 300, 3) := by decide +kernel
theorem dX0_lay_52 : decode cX0_lay 52 = .ok (.iastore, 1) := by decide +kernel
theorem dX0_lay_53 : decode cX0_lay 53 = .ok (.aload_n 0, 1) := by decide +kernel
theorem dX0_lay_54 : decode cX0_lay 54 = .ok (.getfield 24, 3) := by decide +kernel
theorem dX0_lay_57 : decode cX0_lay 57 = .ok (.iload_n 1, 1) := by decide +kernel
theorem dX0_lay_58 : decode cX0_lay 58 = .ok (.iconst 2, 1) := by decide +kernel
theorem dX0_lay_59 : decode cX0_lay 59 = .ok (.imul, 1) := by decide +kernel
theorem dX0_lay_60 : decode cX0_lay 60 = .ok (.iconst 1, 1) := by decide +kernel
theorem dX0_lay_61 : decode cX0_lay 61 = .ok (.iadd, 1) := by decide +kernel
theorem dX0_lay_62 : decode cX0_lay 62 = .ok (.sipush 300, 3) := by decide +kernel
theorem dX0_lay_65 : decode cX0_lay 65 = .ok (.iastore, 1) := by decide +kernel
theorem dX0_lay_66 : decode cX0_lay 66 = .ok (.return_, 1) := by decide +kernel
theorem dX0_layAgain_0 : decode cX0_layAgain 0 = .ok (.iload_n 1, 1) := by decide +kernel
theorem dX0_layAgain_1 : decode cX0_layAgain 1 = .ok (.ifCond .lt 21, 3) := by decide +kernel
theorem dX0_layAgain_4 : decode cX0_layAgain 4 = .ok (.iload_n 1, 1) := by decide +kernel
theorem dX0_layAgain_5 : decode cX0_layAgain 5 = .ok (.sipush 260, 3) := by decide +kernel
theorem dX0_layAgain_8 : decode cX0_layAgain 8 = .ok (.if_icmp .ge 14, 3) := by decide +kernel
theorem dX0_layAgain_11 : decode cX0_layAgain 11 = .ok (.iload_n 2, 1) := by decide +kernel
theorem dX0_layAgain_12 : decode cX0_layAgain 12 = .ok (.ifCond .lt 10, 3) := by decide +kernel
theorem dX0_layAgain_15 : decode cX0_layAgain 15 = .ok (.iload_n 2, 1) := by decide +kernel
theorem dX0_layAgain_16 : decode cX0_layAgain 16 = .ok (.sipush 260, 3) := by decide +kernel
theorem dX0_layAgain_19 : decode cX0_layAgain 19 = .ok (.if_icmp .lt 4, 3) := by decide +kernel
theorem dX0_layAgain_22 : decode cX0_layAgain 22 = .ok (.return_, 1) := by decide +kernel
theorem dX0_layAgain_23 : decode cX0_layAgain 23 = .ok (.aload_n 0, 1) := by decide +kernel
theorem dX0_layAgain_24 : decode cX0_layAgain 24 = .ok (.getfield 9, 3) := by decide +kernel
theorem dX0_layAgain_27 : decode cX0_layAgain 27 = .ok (.iload_n 2, 1) := by decide +kernel
theorem dX0_layAgain_28 : decode cX0_layAgain 28 = .ok (.aload_n 0, 1) := by decide +kernel
theorem dX0_layAgain_29 : decode cX0_layAgain 29 = .ok (.getfield 9, 3) := by decide +kernel
theorem dX0_layAgain_32 : decode cX0_layAgain 32 = .ok (.iload_n 1, 1) := by decide +kernel
theorem dX0_layAgain_33 : decode cX0_layAgain 33 = .ok (.iaload, 1) := by decide +kernel
theorem dX0_layAgain_34 : decode cX0_layAgain 34 = .ok (.iastore, 1) := by decide +kernel
theorem dX0_layAgain_35 : decode cX0_layAgain 35 = .ok (.aload_n 0, 1) := by decide +kernel
theorem dX0_layAgain_36 : decode cX0_layAgain 36 = .ok (.getfield 15, 3) := by decide +kernel
theorem dX0_layAgain_39 : decode cX0_layAgain 39 = .ok (.iload_n 2, 1) := by decide +kernel
theorem dX0_layAgain_40 : decode cX0_layAgain 40 = .ok (.aload_n 0, 1) := by decide +kernel
theorem dX0_layAgain_41 : decode cX0_layAgain 41 = .ok (.getfield 15, 3) := by decide +kernel
theorem dX0_layAgain_44 : decode cX0_layAgain 44 = .ok (.iload_n 1, 1) := by decide +kernel
theorem dX0_layAgain_45 : decode cX0_layAgain 45 = .ok (.iaload, 1) := by decide +kernel
theorem dX0_layAgain_46 : decode cX0_layAgain 46 = .ok (.iastore, 1) := by decide +kernel
theorem dX0_layAgain_47 : decode cX0_layAgain 47 = .ok (.aload_n 0, 1) := by decide +kernel
theorem dX0_layAgain_48 : decode cX0_layAgain 48 = .ok (.getfield 18, 3) := by decide +kernel
theorem dX0_layAgain_51 : decode cX0_layAgain 51 = .ok (.iload_n 2, 1) := by decide +kernel
theorem dX0_layAgain_52 : decode cX0_layAgain 52 = .ok (.sipush 300, 3) := by decide +kernel
theorem dX0_layAgain_55 : decode cX0_layAgain 55 = .ok (.iastore, 1) := by decide +kernel
theorem dX0_layAgain_56 : decode cX0_layAgain 56 = .ok (.aload_n 0, 1) := by decide +kernel
theorem dX0_layAgain_57 : decode cX0_layAgain 57 = .ok (.getfield 21, 3) := by decide +kernel
theorem dX0_layAgain_60 : decode cX0_layAgain 60 = .ok (.iload_n 2, 1) := by decide +kernel
theorem dX0_layAgain_61 : decode cX0_layAgain 61 = .ok (.iconst 0, 1) := by decide +kernel
theorem dX0_layAgain_62 : decode cX0_layAgain 62 = .ok (.iastore, 1) := by decide +kernel
theorem dX0_layAgain_63 : decode cX0_layAgain 63 = .ok (.aload_n 0, 1) := by decide +kernel
theorem dX0_layAgain_64 : decode cX0_layAgain 64 = .ok (.getfield 24, 3) := by decide +kernel
theorem dX0_layAgain_67 : decode cX0_layAgain 67 = .ok (.iload_n 2, 1) := by decide +kernel
theorem dX0_layAgain_68 : decode cX0_layAgain 68 = .ok (.iconst 2, 1) := by decide +kernel
theorem dX0_layAgain_69 : decode cX0_layAgain 69 = .ok (.imul, 1) := by decide +kernel
theorem dX0_layAgain_70 : decode cX0_layAgain 70 = .ok (.aload_n 0, 1) := by decide +kernel
theorem dX0_layAgain_71 : decode cX0_layAgain 71 = .ok (.getfield 24, 3) := by decide +kernel
theorem dX0_layAgain_74 : decode cX0_layAgain 74 = .ok (.iload_n 1, 1) := by decide +kernel
theorem dX0_layAgain_75 : decode cX0_layAgain 75 = .ok (.iconst 2, 1) := by decide +kernel
theorem dX0_layAgain_76 : decode cX0_layAgain 76 = .ok (.imul, 1) := by decide +kernel
theorem dX0_layAgain_77 : decode cX0_layAgain 77 = .ok (.iaload, 1) := by decide +kernel
theorem dX0_layAgain_78 : decode cX0_layAgain 78 = .ok (.iastore, 1) := by decide +kernel
theorem dX0_layAgain_79 : decode cX0_layAgain 79 = .ok (.aload_n 0, 1) := by decide +kernel
theorem dX0_layAgain_80 : decode cX0_layAgain 80 = .ok (.getfield 24, 3) := by decide +kernel
theorem dX0_layAgain_83 : decode cX0_layAgain 83 = .ok (.iload_n 2, 1) := by decide +kernel
theorem dX0_layAgain_84 : decode cX0_layAgain 84 = .ok (.iconst 2, 1) := by decide +kernel
theorem dX0_layAgain_85 : decode cX0_layAgain 85 = .ok (.imul, 1) := by decide +kernel
theorem dX0_layAgain_86 : decode cX0_layAgain 86 = .ok (.iconst 1, 1) := by decide +kernel
theorem dX0_layAgain_87 : decode cX0_layAgain 87 = .ok (.iadd, 1) := by decide +kernel
theorem dX0_layAgain_88 : decode cX0_layAgain 88 = .ok (.aload_n 0, 1) := by decide +kernel
theorem dX0_layAgain_89 : decode cX0_layAgain 89 = .ok (.getfield 24, 3) := by decide +kernel
theorem dX0_layAgain_92 : decode cX0_layAgain 92 = .ok (.iload_n 1, 1) := by decide +kernel
theorem dX0_layAgain_93 : decode cX0_layAgain 93 = .ok (.iconst 2, 1) := by decide +kernel
theorem dX0_layAgain_94 : decode cX0_layAgain 94 = .ok (.imul, 1) := by decide +kernel
theorem dX0_layAgain_95 : decode cX0_layAgain 95 = .ok (.iconst 1, 1) := by decide +kernel
theorem dX0_layAgain_96 : decode cX0_layAgain 96 = .ok (.iadd, 1) := by decide +kernel
theorem dX0_layAgain_97 : decode cX0_layAgain 97 = .ok (.iaload, 1) := by decide +kernel
theorem dX0_layAgain_98 : decode cX0_layAgain 98 = .ok (.iastore, 1) := by decide +kernel
theorem dX0_layAgain_99 : decode cX0_layAgain 99 = .ok (.aload_n 0, 1) := by decide +kernel
theorem dX0_layAgain_100 : decode cX0_layAgain 100 = .ok (.getfield 18, 3) := by decide +kernel
theorem dX0_layAgain_103 : decode cX0_layAgain 103 = .ok (.iload_n 1, 1) := by decide +kernel
theorem dX0_layAgain_104 : decode cX0_layAgain 104 = .ok (.iload_n 2, 1) := by decide +kernel
theorem dX0_layAgain_105 : decode cX0_layAgain 105 = .ok (.iastore, 1) := by decide +kernel
theorem dX0_layAgain_106 : decode cX0_layAgain 106 = .ok (.return_, 1) := by decide +kernel
theorem dX0_remove_0 : decode cX0_remove 0 = .ok (.iload_n 1, 1) := by decide +kernel
theorem dX0_remove_1 : decode cX0_remove 1 = .ok (.ifCond .lt 17, 3) := by decide +kernel
theorem dX0_remove_4 : decode cX0_remove 4 = .ok (.iload_n 1, 1) := by decide +kernel
theorem dX0_remove_5 : decode cX0_remove 5 = .ok (.sipush 260, 3) := by decide +kernel
theorem dX0_remove_8 : decode cX0_remove 8 = .ok (.if_icmp .ge 10, 3) := by decide +kernel
theorem dX0_remove_11 : decode cX0_remove 11 = .ok (.aload_n 0, 1) := by decide +kernel
theorem dX0_remove_12 : decode cX0_remove 12 = .ok (.getfield 15, 3) := by decide +kernel
theorem dX0_remove_15 : decode cX0_remove 15 = .ok (.iload_n 1, 1) := by decide +kernel
theorem dX0_remove_16 : decode cX0_remove 16 = .ok (.iconst 0, 1) := by decide +kernel
theorem dX0_remove_17 : decode cX0_remove 17 = .ok (.iastore, 1) := by decide +kernel
theorem dX0_remove_18 : decode cX0_remove 18 = .ok (.return_, 1) := by decide +kernel
set_option maxRecDepth 20000 in
theorem ggX0_addressOf_X0_isOf : GoodIn wsX0_addressOf wsX0_isOf := goodIn_r _ [5, 6, 7, 8, 9, 4, 10, 11, 12, 13, 14, 15, 16] (by decide +kernel) (by decide +kernel)
set_option maxRecDepth 20000 in
theorem gX0_addressOf_X0_isOf : GoodIn wsX0_addressOf (wsV RX0 46 RX0 yX0_isOf wsX0_isOf) := goodIn_app (goodIn_of _ (by decide +kernel)) ggX0_addressOf_X0_isOf
theorem dX0_addressOf_0 : decode cX0_addressOf 0 = .ok (.iconst 0, 1) := by decide +kernel
theorem dX0_addressOf_1 : decode cX0_addressOf 1 = .ok (.istore_n 3, 1) := by decide +kernel
theorem dX0_addressOf_2 : decode cX0_addressOf 2 = .ok (.iconst 0, 1) := by decide +kernel
theorem dX0_addressOf_3 : decode cX0_addressOf 3 = .ok (.istore 4, 2) := by decide +kernel
theorem dX0_addressOf_5 : decode cX0_addressOf 5 = .ok (.iload 4, 2) := by decide +kernel
theorem dX0_addressOf_7 : decode cX0_addressOf 7 = .ok (.sipush 260, 3) := by decide +kernel
theorem dX0_addressOf_10 : decode cX0_addressOf 10 = .ok (.if_icmp .ge 30, 3) := by decide +kernel
theorem dX0_addressOf_13 : decode cX0_addressOf 13 = .ok (.aload_n 0, 1) := by decide +kernel
theorem dX0_addressOf_14 : decode cX0_addressOf 14 = .ok (.iload_n 1, 1) := by decide +kernel
theorem dX0_addressOf_15 : decode cX0_addressOf 15 = .ok (.iload 4, 2) := by decide +kernel
theorem dX0_addressOf_17 : decode cX0_addressOf 17 = .ok (.invokevirtual 46, 3) := by decide +kernel
theorem dX0_addressOf_20 : decode cX0_addressOf 20 = .ok (.ifCond .eq 14, 3) := by decide +kernel
theorem dX0_addressOf_23 : decode cX0_addressOf 23 = .ok (.iload_n 3, 1) := by decide +kernel
theorem dX0_addressOf_24 : decode cX0_addressOf 24 = .ok (.iload_n 2, 1) := by decide +kernel
theorem dX0_addressOf_25 : decode cX0_addressOf 25 = .ok (.if_icmp .ne 6, 3) := by decide +kernel
theorem dX0_addressOf_28 : decode cX0_addressOf 28 = .ok (.iload 4, 2) := by decide +kernel
theorem dX0_addressOf_30 : decode cX0_addressOf 30 = .ok (.ireturn, 1) := by decide +kernel
theorem dX0_addressOf_31 : decode cX0_addressOf 31 = .ok (.iinc 3 1, 3) := by decide +kernel
theorem dX0_addressOf_34 : decode cX0_addressOf 34 = .ok (.iinc 4 1, 3) := by decide +kernel
theorem dX0_addressOf_37 : decode cX0_addressOf 37 = .ok (.goto (-32), 3) := by decide +kernel
theorem dX0_addressOf_40 : decode cX0_addressOf 40 = .ok (.sipush 300, 3) := by decide +kernel
theorem dX0_addressOf_43 : decode cX0_addressOf 43 = .ok (.ireturn, 1) := by decide +kernel
set_option maxRecDepth 20000 in
theorem ggX0_number_X0_isAt : GoodIn wsX0_number wsX0_isAt := goodIn_r _ [5, 6, 7, 8, 9, 10, 11] (by decide +kernel) (by decide +kernel)
set_option maxRecDepth 20000 in
theorem gX0_number_X0_isAt : GoodIn wsX0_number (wsV RX0 39 RX0 yX0_isAt wsX0_isAt) := goodIn_app (goodIn_of _ (by decide +kernel)) ggX0_number_X0_isAt
theorem dX0_number_0 : decode cX0_number 0 = .ok (.iconst 0, 1) := by decide +kernel
theorem dX0_number_1 : decode cX0_number 1 = .ok (.istore_n 1, 1) := by decide +kernel
theorem dX0_number_2 : decode cX0_number 2 = .ok (.iconst 0, 1) := by decide +kernel
theorem dX0_number_3 : decode cX0_number 3 = .ok (.istore_n 2, 1) := by decide +kernel
theorem dX0_number_4 : decode cX0_number 4 = .ok (.iload_n 2, 1) := by decide +kernel
theorem dX0_number_5 : decode cX0_number 5 = .ok (.sipush 260, 3) := by decide +kernel
theorem dX0_number_8 : decode cX0_number 8 = .ok (.if_icmp .ge 20, 3) := by decide +kernel
theorem dX0_number_11 : decode cX0_number 11 = .ok (.aload_n 0, 1) := by decide +kernel
theorem dX0_number_12 : decode cX0_number 12 = .ok (.iload_n 2, 1) := by decide +kernel
theorem dX0_number_13 : decode cX0_number 13 = .ok (.invokevirtual 39, 3) := by decide +kernel
theorem dX0_number_16 : decode cX0_number 16 = .ok (.ifCond .eq 6, 3) := by decide +kernel
theorem dX0_number_19 : decode cX0_number 19 = .ok (.iinc 1 1, 3) := by decide +kernel
theorem dX0_number_22 : decode cX0_number 22 = .ok (.iinc 2 1, 3) := by decide +kernel
theorem dX0_number_25 : decode cX0_number 25 = .ok (.goto (-21), 3) := by decide +kernel
theorem dX0_number_28 : decode cX0_number 28 = .ok (.iload_n 1, 1) := by decide +kernel
theorem dX0_number_29 : decode cX0_number 29 = .ok (.ireturn, 1) := by decide +kernel
set_option maxRecDepth 20000 in
theorem ggX0_floorTaken_X0_sizeAt : GoodIn wsX0_floorTaken wsX0_sizeAt := goodIn_r _ [5, 6, 7, 8, 9, 4, 10, 11, 12, 13, 14, 15] (by decide +kernel) (by decide +kernel)
set_option maxRecDepth 20000 in
theorem gX0_floorTaken_X0_sizeAt : GoodIn wsX0_floorTaken (wsV RX0 50 RX0 yX0_sizeAt wsX0_sizeAt) := goodIn_app (goodIn_of _ (by decide +kernel)) ggX0_floorTaken_X0_sizeAt
theorem dX0_floorTaken_0 : decode cX0_floorTaken 0 = .ok (.iconst 0, 1) := by decide +kernel
theorem dX0_floorTaken_1 : decode cX0_floorTaken 1 = .ok (.istore_n 1, 1) := by decide +kernel
theorem dX0_floorTaken_2 : decode cX0_floorTaken 2 = .ok (.iconst 0, 1) := by decide +kernel
theorem dX0_floorTaken_3 : decode cX0_floorTaken 3 = .ok (.istore_n 2, 1) := by decide +kernel
theorem dX0_floorTaken_4 : decode cX0_floorTaken 4 = .ok (.iload_n 2, 1) := by decide +kernel
theorem dX0_floorTaken_5 : decode cX0_floorTaken 5 = .ok (.bipush 60, 2) := by decide +kernel
theorem dX0_floorTaken_7 : decode cX0_floorTaken 7 = .ok (.if_icmp .ge 21, 3) := by decide +kernel
theorem dX0_floorTaken_10 : decode cX0_floorTaken 10 = .ok (.iload_n 1, 1) := by decide +kernel
theorem dX0_floorTaken_11 : decode cX0_floorTaken 11 = .ok (.aload_n 0, 1) := by decide +kernel
theorem dX0_floorTaken_12 : decode cX0_floorTaken 12 = .ok (.sipush 200, 3) := by decide +kernel
theorem dX0_floorTaken_15 : decode cX0_floorTaken 15 = .ok (.iload_n 2, 1) := by decide +kernel
theorem dX0_floorTaken_16 : decode cX0_floorTaken 16 = .ok (.iadd, 1) := by decide +kernel
theorem dX0_floorTaken_17 : decode cX0_floorTaken 17 = .ok (.invokevirtual 50, 3) := by decide +kernel
theorem dX0_floorTaken_20 : decode cX0_floorTaken 20 = .ok (.iadd, 1) := by decide +kernel
theorem dX0_floorTaken_21 : decode cX0_floorTaken 21 = .ok (.istore_n 1, 1) := by decide +kernel
theorem dX0_floorTaken_22 : decode cX0_floorTaken 22 = .ok (.iinc 2 1, 3) := by decide +kernel
theorem dX0_floorTaken_25 : decode cX0_floorTaken 25 = .ok (.goto (-21), 3) := by decide +kernel
theorem dX0_floorTaken_28 : decode cX0_floorTaken 28 = .ok (.iload_n 1, 1) := by decide +kernel
theorem dX0_floorTaken_29 : decode cX0_floorTaken 29 = .ok (.ireturn, 1) := by decide +kernel
set_option maxRecDepth 20000 in
theorem ggX0_floorAddressFor_X0_sizeAt : GoodIn wsX0_floorAddressFor wsX0_sizeAt := goodIn_r _ [5, 6, 7, 8, 9, 4, 10, 11, 12, 13, 14, 15] (by decide +kernel) (by decide +kernel)
set_option maxRecDepth 20000 in
theorem gX0_floorAddressFor_X0_sizeAt : GoodIn wsX0_floorAddressFor (wsV RX0 50 RX0 yX0_sizeAt wsX0_sizeAt) := goodIn_app (goodIn_of _ (by decide +kernel)) ggX0_floorAddressFor_X0_sizeAt
theorem dX0_floorAddressFor_0 : decode cX0_floorAddressFor 0 = .ok (.iconst 0, 1) := by decide +kernel
theorem dX0_floorAddressFor_1 : decode cX0_floorAddressFor 1 = .ok (.istore_n 2, 1) := by decide +kernel
theorem dX0_floorAddressFor_2 : decode cX0_floorAddressFor 2 = .ok (.iconst 0, 1) := by decide +kernel
theorem dX0_floorAddressFor_3 : decode cX0_floorAddressFor 3 = .ok (.istore_n 3, 1) := by decide +kernel
theorem dX0_floorAddressFor_4 : decode cX0_floorAddressFor 4 = .ok (.iload_n 3, 1) := by decide +kernel
theorem dX0_floorAddressFor_5 : decode cX0_floorAddressFor 5 = .ok (.bipush 60, 2) := by decide +kernel
theorem dX0_floorAddressFor_7 : decode cX0_floorAddressFor 7 = .ok (.if_icmp .ge 37, 3) := by decide +kernel
theorem dX0_floorAddressFor_10 : decode cX0_floorAddressFor 10 = .ok (.iload_n 3, 1) := by decide +kernel
theorem dX0_floorAddressFor_11 : decode cX0_floorAddressFor 11 = .ok (.iload_n 2, 1) := by decide +kernel
theorem dX0_floorAddressFor_12 : decode cX0_floorAddressFor 12 = .ok (.isub, 1) := by decide +kernel
theorem dX0_floorAddressFor_13 : decode cX0_floorAddressFor 13 = .ok (.iload_n 1, 1) := by decide +kernel
theorem dX0_floorAddressFor_14 : decode cX0_floorAddressFor 14 = .ok (.if_icmp .ge 30, 3) := by decide +kernel
theorem dX0_floorAddressFor_17 : decode cX0_floorAddressFor 17 = .ok (.aload_n 0, 1) := by decide +kernel
theorem dX0_floorAddressFor_18 : decode cX0_floorAddressFor 18 = .ok (.sipush 200, 3) := by decide +kernel
theorem dX0_floorAddressFor_21 : decode cX0_floorAddressFor 21 = .ok (.iload_n 3, 1) := by decide +kernel
theorem dX0_floorAddressFor_22 : decode cX0_floorAddressFor 22 = .ok (.iadd, 1) := by decide +kernel
theorem dX0_floorAddressFor_23 : decode cX0_floorAddressFor 23 = .ok (.invokevirtual 50, 3) := by decide +kernel
theorem dX0_floorAddressFor_26 : decode cX0_floorAddressFor 26 = .ok (.istore 4, 2) := by decide +kernel
theorem dX0_floorAddressFor_28 : decode cX0_floorAddressFor 28 = .ok (.iload 4, 2) := by decide +kernel
theorem dX0_floorAddressFor_30 : decode cX0_floorAddressFor 30 = .ok (.ifCond .le 8, 3) := by decide +kernel
theorem dX0_floorAddressFor_33 : decode cX0_floorAddressFor 33 = .ok (.iload_n 3, 1) := by decide +kernel
theorem dX0_floorAddressFor_34 : decode cX0_floorAddressFor 34 = .ok (.iload 4, 2) := by decide +kernel
theorem dX0_floorAddressFor_36 : decode cX0_floorAddressFor 36 = .ok (.iadd, 1) := by decide +kernel
theorem dX0_floorAddressFor_37 : decode cX0_floorAddressFor 37 = .ok (.istore_n 2, 1) := by decide +kernel
theorem dX0_floorAddressFor_38 : decode cX0_floorAddressFor 38 = .ok (.iinc 3 1, 3) := by decide +kernel
theorem dX0_floorAddressFor_41 : decode cX0_floorAddressFor 41 = .ok (.goto (-37), 3) := by decide +kernel
theorem dX0_floorAddressFor_44 : decode cX0_floorAddressFor 44 = .ok (.iload_n 2, 1) := by decide +kernel
theorem dX0_floorAddressFor_45 : decode cX0_floorAddressFor 45 = .ok (.iload_n 1, 1) := by decide +kernel
theorem dX0_floorAddressFor_46 : decode cX0_floorAddressFor 46 = .ok (.iadd, 1) := by decide +kernel
theorem dX0_floorAddressFor_47 : decode cX0_floorAddressFor 47 = .ok (.bipush 60, 2) := by decide +kernel
theorem dX0_floorAddressFor_49 : decode cX0_floorAddressFor 49 = .ok (.if_icmp .gt 11, 3) := by decide +kernel
theorem dX0_floorAddressFor_52 : decode cX0_floorAddressFor 52 = .ok (.sipush 200, 3) := by decide +kernel
theorem dX0_floorAddressFor_55 : decode cX0_floorAddressFor 55 = .ok (.iload_n 2, 1) := by decide +kernel
theorem dX0_floorAddressFor_56 : decode cX0_floorAddressFor 56 = .ok (.iadd, 1) := by decide +kernel
theorem dX0_floorAddressFor_57 : decode cX0_floorAddressFor 57 = .ok (.goto 6, 3) := by decide +kernel
theorem dX0_floorAddressFor_60 : decode cX0_floorAddressFor 60 = .ok (.sipush 300, 3) := by decide +kernel
theorem dX0_floorAddressFor_63 : decode cX0_floorAddressFor 63 = .ok (.ireturn, 1) := by decide +kernel
theorem dX0_replaceNames_0 : decode cX0_replaceNames 0 = .ok (.iconst 0, 1) := by decide +kernel
theorem dX0_replaceNames_1 : decode cX0_replaceNames 1 = .ok (.istore_n 3, 1) := by decide +kernel
theorem dX0_replaceNames_2 : decode cX0_replaceNames 2 = .ok (.iload_n 3, 1) := by decide +kernel
theorem dX0_replaceNames_3 : decode cX0_replaceNames 3 = .ok (.sipush 520, 3) := by decide +kernel
theorem dX0_replaceNames_6 : decode cX0_replaceNames 6 = .ok (.if_icmp .ge 26, 3) := by decide +kernel
theorem dX0_replaceNames_9 : decode cX0_replaceNames 9 = .ok (.aload_n 0, 1) := by decide +kernel
theorem dX0_replaceNames_10 : decode cX0_replaceNames 10 = .ok (.getfield 24, 3) := by decide +kernel
theorem dX0_replaceNames_13 : decode cX0_replaceNames 13 = .ok (.iload_n 3, 1) := by decide +kernel
theorem dX0_replaceNames_14 : decode cX0_replaceNames 14 = .ok (.iaload, 1) := by decide +kernel
theorem dX0_replaceNames_15 : decode cX0_replaceNames 15 = .ok (.iload_n 1, 1) := by decide +kernel
theorem dX0_replaceNames_16 : decode cX0_replaceNames 16 = .ok (.if_icmp .ne 10, 3) := by decide +kernel
theorem dX0_replaceNames_19 : decode cX0_replaceNames 19 = .ok (.aload_n 0, 1) := by decide +kernel
theorem dX0_replaceNames_20 : decode cX0_replaceNames 20 = .ok (.getfield 24, 3) := by decide +kernel
theorem dX0_replaceNames_23 : decode cX0_replaceNames 23 = .ok (.iload_n 3, 1) := by decide +kernel
theorem dX0_replaceNames_24 : decode cX0_replaceNames 24 = .ok (.iload_n 2, 1) := by decide +kernel
theorem dX0_replaceNames_25 : decode cX0_replaceNames 25 = .ok (.iastore, 1) := by decide +kernel
theorem dX0_replaceNames_26 : decode cX0_replaceNames 26 = .ok (.iinc 3 1, 3) := by decide +kernel
theorem dX0_replaceNames_29 : decode cX0_replaceNames 29 = .ok (.goto (-27), 3) := by decide +kernel
theorem dX0_replaceNames_32 : decode cX0_replaceNames 32 = .ok (.return_, 1) := by decide +kernel
set_option maxRecDepth 20000 in
theorem ggX0_emptyHalf_X0_remove : GoodIn wsX0_emptyHalf wsX0_remove := goodIn_r _ [5, 6, 7, 8, 9, 10, 11] (by decide +kernel) (by decide +kernel)
set_option maxRecDepth 20000 in
theorem gX0_emptyHalf_X0_remove : GoodIn wsX0_emptyHalf (wsV RX0 57 RX0 yX0_remove wsX0_remove) := goodIn_app (goodIn_of _ (by decide +kernel)) ggX0_emptyHalf_X0_remove
theorem dX0_emptyHalf_0 : decode cX0_emptyHalf 0 = .ok (.iconst 0, 1) := by decide +kernel
theorem dX0_emptyHalf_1 : decode cX0_emptyHalf 1 = .ok (.istore_n 2, 1) := by decide +kernel
theorem dX0_emptyHalf_2 : decode cX0_emptyHalf 2 = .ok (.iload_n 2, 1) := by decide +kernel
theorem dX0_emptyHalf_3 : decode cX0_emptyHalf 3 = .ok (.bipush 64, 2) := by decide +kernel
theorem dX0_emptyHalf_5 : decode cX0_emptyHalf 5 = .ok (.if_icmp .ge 19, 3) := by decide +kernel
theorem dX0_emptyHalf_8 : decode cX0_emptyHalf 8 = .ok (.aload_n 0, 1) := by decide +kernel
theorem dX0_emptyHalf_9 : decode cX0_emptyHalf 9 = .ok (.iload_n 1, 1) := by decide +kernel
theorem dX0_emptyHalf_10 : decode cX0_emptyHalf 10 = .ok (.bipush 100, 2) := by decide +kernel
theorem dX0_emptyHalf_12 : decode cX0_emptyHalf 12 = .ok (.imul, 1) := by decide +kernel
theorem dX0_emptyHalf_13 : decode cX0_emptyHalf 13 = .ok (.iload_n 2, 1) := by decide +kernel
theorem dX0_emptyHalf_14 : decode cX0_emptyHalf 14 = .ok (.iadd, 1) := by decide +kernel
theorem dX0_emptyHalf_15 : decode cX0_emptyHalf 15 = .ok (.invokevirtual 57, 3) := by decide +kernel
theorem dX0_emptyHalf_18 : decode cX0_emptyHalf 18 = .ok (.iinc 2 1, 3) := by decide +kernel
theorem dX0_emptyHalf_21 : decode cX0_emptyHalf 21 = .ok (.goto (-19), 3) := by decide +kernel
theorem dX0_emptyHalf_24 : decode cX0_emptyHalf 24 = .ok (.return_, 1) := by decide +kernel
set_option maxRecDepth 20000 in
theorem ggX0_sweepFloor_X0_remove : GoodIn wsX0_sweepFloor wsX0_remove := goodIn_r _ [6, 7, 8, 9, 10, 11, 12] (by decide +kernel) (by decide +kernel)
set_option maxRecDepth 20000 in
theorem gX0_sweepFloor_X0_remove : GoodIn wsX0_sweepFloor (wsV RX0 57 RX0 yX0_remove wsX0_remove) := goodIn_app (goodIn_of _ (by decide +kernel)) ggX0_sweepFloor_X0_remove
theorem dX0_sweepFloor_0 : decode cX0_sweepFloor 0 = .ok (.sipush 200, 3) := by decide +kernel
theorem dX0_sweepFloor_3 : decode cX0_sweepFloor 3 = .ok (.istore_n 1, 1) := by decide +kernel
theorem dX0_sweepFloor_4 : decode cX0_sweepFloor 4 = .ok (.iload_n 1, 1) := by decide +kernel
theorem dX0_sweepFloor_5 : decode cX0_sweepFloor 5 = .ok (.sipush 260, 3) := by decide +kernel
theorem dX0_sweepFloor_8 : decode cX0_sweepFloor 8 = .ok (.if_icmp .ge 30, 3) := by decide +kernel
theorem dX0_sweepFloor_11 : decode cX0_sweepFloor 11 = .ok (.aload_n 0, 1) := by decide +kernel
theorem dX0_sweepFloor_12 : decode cX0_sweepFloor 12 = .ok (.getfield 21, 3) := by decide +kernel
theorem dX0_sweepFloor_15 : decode cX0_sweepFloor 15 = .ok (.iload_n 1, 1) := by decide +kernel
theorem dX0_sweepFloor_16 : decode cX0_sweepFloor 16 = .ok (.iaload, 1) := by decide +kernel
theorem dX0_sweepFloor_17 : decode cX0_sweepFloor 17 = .ok (.ifCond .ne 8, 3) := by decide +kernel
theorem dX0_sweepFloor_20 : decode cX0_sweepFloor 20 = .ok (.aload_n 0, 1) := by decide +kernel
theorem dX0_sweepFloor_21 : decode cX0_sweepFloor 21 = .ok (.iload_n 1, 1) := by decide +kernel
theorem dX0_sweepFloor_22 : decode cX0_sweepFloor 22 = .ok (.invokevirtual 57, 3) := by decide +kernel
theorem dX0_sweepFloor_25 : decode cX0_sweepFloor 25 = .ok (.aload_n 0, 1) := by decide +kernel
theorem dX0_sweepFloor_26 : decode cX0_sweepFloor 26 = .ok (.getfield 21, 3) := by decide +kernel
theorem dX0_sweepFloor_29 : decode cX0_sweepFloor 29 = .ok (.iload_n 1, 1) := by decide +kernel
theorem dX0_sweepFloor_30 : decode cX0_sweepFloor 30 = .ok (.iconst 0, 1) := by decide +kernel
theorem dX0_sweepFloor_31 : decode cX0_sweepFloor 31 = .ok (.iastore, 1) := by decide +kernel
theorem dX0_sweepFloor_32 : decode cX0_sweepFloor 32 = .ok (.iinc 1 1, 3) := by decide +kernel
theorem dX0_sweepFloor_35 : decode cX0_sweepFloor 35 = .ok (.goto (-31), 3) := by decide +kernel
theorem dX0_sweepFloor_38 : decode cX0_sweepFloor 38 = .ok (.return_, 1) := by decide +kernel
theorem dX1_init_0 : decode cX1_init 0 = .ok (.aload_n 0, 1) := by decide +kernel
theorem dX1_init_1 : decode cX1_init 1 = .ok (.invokespecial 3, 3) := by decide +kernel
theorem dX1_init_4 : decode cX1_init 4 = .ok (.aload_n 0, 1) := by decide +kernel
theorem dX1_init_5 : decode cX1_init 5 = .ok (.iconst 3, 1) := by decide +kernel
theorem dX1_init_6 : decode cX1_init 6 = .ok (.newarray .int, 2) := by decide +kernel
theorem dX1_init_8 : decode cX1_init 8 = .ok (.putfield 9, 3) := by decide +kernel
theorem dX1_init_11 : decode cX1_init 11 = .ok (.return_, 1) := by decide +kernel
set_option maxRecDepth 20000 in
theorem ggX2_init_X5_init : GoodIn wsX2_init wsX5_init := goodIn_r _ [10, 11, 2, 3, 12, 13, 14, 15, 16, 17, 18, 19, 20, 21, 22, 23, 24, 25, 26, 27, 28, 29, 30, 31, 32, 33, 34, 35, 36, 37, 38, 39, 40, 44, 45, 46, 47, 48, 49, 50, 51, 52, 53, 54, 55, 56, 57, 58, 59, 60, 61] (by decide +kernel) (by decide +kernel)
set_option maxRecDepth 20000 in
theorem gX2_init_X5_init : GoodIn wsX2_init (wsX5_init) := ggX2_init_X5_init
theorem dX2_init_0 : decode cX2_init 0 = .ok (.aload_n 0, 1) := by decide +kernel
theorem dX2_init_1 : decode cX2_init 1 = .ok (.invokespecial 3, 3) := by decide +kernel
theorem dX2_init_4 : decode cX2_init 4 = .ok (.aload_n 0, 1) := by decide +kernel
theorem dX2_init_5 : decode cX2_init 5 = .ok (.bipush 6, 2) := by decide +kernel
theorem dX2_init_7 : decode cX2_init 7 = .ok (.anewarray 9, 3) := by decide +kernel
theorem dX2_init_10 : decode cX2_init 10 = .ok (.putfield 11, 3) := by decide +kernel
theorem dX2_init_13 : decode cX2_init 13 = .ok (.iconst 0, 1) := by decide +kernel
theorem dX2_init_14 : decode cX2_init 14 = .ok (.istore_n 1, 1) := by decide +kernel
theorem dX2_init_15 : decode cX2_init 15 = .ok (.iload_n 1, 1) := by decide +kernel
theorem dX2_init_16 : decode cX2_init 16 = .ok (.bipush 6, 2) := by decide +kernel
theorem dX2_init_18 : decode cX2_init 18 = .ok (.if_icmp .ge 22, 3) := by decide +kernel
theorem dX2_init_21 : decode cX2_init 21 = .ok (.aload_n 0, 1) := by decide +kernel
theorem dX2_init_22 : decode cX2_init 22 = .ok (.getfield 11, 3) := by decide +kernel
theorem dX2_init_25 : decode cX2_init 25 = .ok (.iload_n 1, 1) := by decide +kernel
theorem dX2_init_26 : decode cX2_init 26 = .ok (.new 9, 3) := by decide +kernel
theorem dX2_init_29 : decode cX2_init 29 = .ok (.dup, 1) := by decide +kernel
theorem dX2_init_30 : decode cX2_init 30 = .ok (.invokespecial 17, 3) := by decide +kernel
theorem dX2_init_33 : decode cX2_init 33 = .ok (.aastore, 1) := by decide +kernel
theorem dX2_init_34 : decode cX2_init 34 = .ok (.iinc 1 1, 3) := by decide +kernel
theorem dX2_init_37 : decode cX2_init 37 = .ok (.goto (-22), 3) := by decide +kernel
theorem dX2_init_40 : decode cX2_init 40 = .ok (.return_, 1) := by decide +kernel
theorem dX2_size_0 : decode cX2_size 0 = .ok (.aload_n 0, 1) := by decide +kernel
theorem dX2_size_1 : decode cX2_size 1 = .ok (.getfield 18, 3) := by decide +kernel
theorem dX2_size_4 : decode cX2_size 4 = .ok (.ireturn, 1) := by decide +kernel
set_option maxRecDepth 20000 in
theorem ggX2_slotOfDraft_J9_floorMod_7cf53 : GoodIn wsX2_slotOfDraft wsJ9_floorMod_7cf53 := goodIn_r _ [6] (by decide +kernel) (by decide +kernel)
set_option maxRecDepth 20000 in
theorem gX2_slotOfDraft_J9_floorMod_7cf53 : GoodIn wsX2_slotOfDraft (va_wsS RX2 25 yJ9_floorMod_7cf53 wsJ9_floorMod_7cf53) := goodIn_app (goodIn_of _ (by decide +kernel)) ggX2_slotOfDraft_J9_floorMod_7cf53
theorem dX2_slotOfDraft_0 : decode cX2_slotOfDraft 0 = .ok (.aload_n 0, 1) := by decide +kernel
theorem dX2_slotOfDraft_1 : decode cX2_slotOfDraft 1 = .ok (.getfield 22, 3) := by decide +kernel
theorem dX2_slotOfDraft_4 : decode cX2_slotOfDraft 4 = .ok (.aload_n 0, 1) := by decide +kernel
theorem dX2_slotOfDraft_5 : decode cX2_slotOfDraft 5 = .ok (.getfield 18, 3) := by decide +kernel
theorem dX2_slotOfDraft_8 : decode cX2_slotOfDraft 8 = .ok (.iadd, 1) := by decide +kernel
theorem dX2_slotOfDraft_9 : decode cX2_slotOfDraft 9 = .ok (.bipush 6, 2) := by decide +kernel
theorem dX2_slotOfDraft_11 : decode cX2_slotOfDraft 11 = .ok (.invokestatic 25, 3) := by decide +kernel
theorem dX2_slotOfDraft_14 : decode cX2_slotOfDraft 14 = .ok (.ireturn, 1) := by decide +kernel
set_option maxRecDepth 20000 in
theorem ggX2_draft_X2_slotOfDraft : GoodIn wsX2_draft wsX2_slotOfDraft := goodIn_r _ [6, 7, 8, 9, 10, 11, 12, 52, 53, 54] (by decide +kernel) (by decide +kernel)
set_option maxRecDepth 20000 in
theorem gX2_draft_X2_slotOfDraft : GoodIn wsX2_draft (wsV RX2 31 RX2 yX2_slotOfDraft wsX2_slotOfDraft) := goodIn_app (goodIn_of _ (by decide +kernel)) ggX2_draft_X2_slotOfDraft
set_option maxRecDepth 20000 in
theorem ggX2_draft_X5_become : GoodIn wsX2_draft wsX5_become := goodIn_r _ [17, 18, 19, 20, 21, 22, 23, 24, 25, 26, 27, 28, 29, 30, 31, 32, 33, 34, 35, 36, 37, 38, 39, 40, 41, 42, 43, 44, 45, 46, 47, 48, 49, 50, 51, 55, 56, 57, 58, 59, 60, 61, 62, 63, 64, 65, 66, 67, 68, 69, 70, 71, 72] (by decide +kernel) (by decide +kernel)
set_option maxRecDepth 20000 in
theorem gX2_draft_X5_become : GoodIn wsX2_draft (wsV RX2 35 RX5 yX5_become wsX5_become) := goodIn_app (goodIn_of _ (by decide +kernel)) ggX2_draft_X5_become
theorem dX2_draft_0 : decode cX2_draft 0 = .ok (.aload_n 0, 1) := by decide +kernel
theorem dX2_draft_1 : decode cX2_draft 1 = .ok (.getfield 11, 3) := by decide +kernel
theorem dX2_draft_4 : decode cX2_draft 4 = .ok (.aload_n 0, 1) := by decide +kernel
theorem dX2_draft_5 : decode cX2_draft 5 = .ok (.invokevirtual 31, 3) := by decide +kernel
theorem dX2_draft_8 : decode cX2_draft 8 = .ok (.aaload, 1) := by decide +kernel
theorem dX2_draft_9 : decode cX2_draft 9 = .ok (.astore_n 2, 1) := by decide +kernel
theorem dX2_draft_10 : decode cX2_draft 10 = .ok (.aload_n 2, 1) := by decide +kernel
theorem dX2_draft_11 : decode cX2_draft 11 = .ok (.ifnull 8, 3) := by decide +kernel
theorem dX2_draft_14 : decode cX2_draft 14 = .ok (.aload_n 2, 1) := by decide +kernel
theorem dX2_draft_15 : decode cX2_draft 15 = .ok (.aload_n 1, 1) := by decide +kernel
theorem dX2_draft_16 : decode cX2_draft 16 = .ok (.invokevirtual 35, 3) := by decide +kernel
theorem dX2_draft_19 : decode cX2_draft 19 = .ok (.return_, 1) := by decide +kernel
set_option maxRecDepth 20000 in
theorem ggX2_keepDraft_J9_floorMod_7cf53 : GoodIn wsX2_keepDraft wsJ9_floorMod_7cf53 := goodIn_r _ [6] (by decide +kernel) (by decide +kernel)
set_option maxRecDepth 20000 in
theorem gX2_keepDraft_J9_floorMod_7cf53 : GoodIn wsX2_keepDraft (va_wsS RX2 25 yJ9_floorMod_7cf53 wsJ9_floorMod_7cf53) := goodIn_app (goodIn_of _ (by decide +kernel)) ggX2_keepDraft_J9_floorMod_7cf53
theorem dX2_keepDraft_0 : decode cX2_keepDraft 0 = .ok (.aload_n 0, 1) := by decide +kernel
theorem dX2_keepDraft_1 : decode cX2_keepDraft 1 = .ok (.getfield 18, 3) := by decide +kernel
theorem dX2_keepDraft_4 : decode cX2_keepDraft 4 = .ok (.iconst 5, 1) := by decide +kernel
theorem dX2_keepDraft_5 : decode cX2_keepDraft 5 = .ok (.if_icmp .ge 16, 3) := by decide +kernel
theorem dX2_keepDraft_8 : decode cX2_keepDraft 8 = .ok (.aload_n 0, 1) := by decide +kernel
theorem dX2_keepDraft_9 : decode cX2_keepDraft 9 = .ok (.dup, 1) := by decide +kernel
theorem dX2_keepDraft_10 : decode cX2_keepDraft 10 = .ok (.getfield 18, 3) := by decide +kernel
theorem dX2_keepDraft_13 : decode cX2_keepDraft 13 = .ok (.iconst 1, 1) := by decide +kernel
theorem dX2_keepDraft_14 : decode cX2_keepDraft 14 = .ok (.iadd, 1) := by decide +kernel
theorem dX2_keepDraft_15 : decode cX2_keepDraft 15 = .ok (.putfield 18, 3) := by decide +kernel
theorem dX2_keepDraft_18 : decode cX2_keepDraft 18 = .ok (.goto 18, 3) := by decide +kernel
theorem dX2_keepDraft_21 : decode cX2_keepDraft 21 = .ok (.aload_n 0, 1) := by decide +kernel
theorem dX2_keepDraft_22 : decode cX2_keepDraft 22 = .ok (.aload_n 0, 1) := by decide +kernel
theorem dX2_keepDraft_23 : decode cX2_keepDraft 23 = .ok (.getfield 22, 3) := by decide +kernel
theorem dX2_keepDraft_26 : decode cX2_keepDraft 26 = .ok (.iconst 1, 1) := by decide +kernel
theorem dX2_keepDraft_27 : decode cX2_keepDraft 27 = .ok (.iadd, 1) := by decide +kernel
theorem dX2_keepDraft_28 : decode cX2_keepDraft 28 = .ok (.bipush 6, 2) := by decide +kernel
theorem dX2_keepDraft_30 : decode cX2_keepDraft 30 = .ok (.invokestatic 25, 3) := by decide +kernel
theorem dX2_keepDraft_33 : decode cX2_keepDraft 33 = .ok (.putfield 22, 3) := by decide +kernel
theorem dX2_keepDraft_36 : decode cX2_keepDraft 36 = .ok (.return_, 1) := by decide +kernel
theorem dX3_init_0 : decode cX3_init 0 = .ok (.aload_n 0, 1) := by decide +kernel
theorem dX3_init_1 : decode cX3_init 1 = .ok (.invokespecial 3, 3) := by decide +kernel
theorem dX3_init_4 : decode cX3_init 4 = .ok (.aload_n 0, 1) := by decide +kernel
theorem dX3_init_5 : decode cX3_init 5 = .ok (.bipush 124, 2) := by decide +kernel
theorem dX3_init_7 : decode cX3_init 7 = .ok (.newarray .int, 2) := by decide +kernel
theorem dX3_init_9 : decode cX3_init 9 = .ok (.putfield 9, 3) := by decide +kernel
theorem dX3_init_12 : decode cX3_init 12 = .ok (.return_, 1) := by decide +kernel
theorem dX3_become_0 : decode cX3_become 0 = .ok (.aload_n 1, 1) := by decide +kernel
theorem dX3_become_1 : decode cX3_become 1 = .ok (.getfield 9, 3) := by decide +kernel
theorem dX3_become_4 : decode cX3_become 4 = .ok (.iconst 0, 1) := by decide +kernel
theorem dX3_become_5 : decode cX3_become 5 = .ok (.aload_n 0, 1) := by decide +kernel
theorem dX3_become_6 : decode cX3_become 6 = .ok (.getfield 9, 3) := by decide +kernel
theorem dX3_become_9 : decode cX3_become 9 = .ok (.iconst 0, 1) := by decide +kernel
theorem dX3_become_10 : decode cX3_become 10 = .ok (.bipush 124, 2) := by decide +kernel
theorem dX3_become_12 : decode cX3_become 12 = .ok (.invokestatic 15, 3) := by decide +kernel
theorem dX3_become_15 : decode cX3_become 15 = .ok (.aload_n 0, 1) := by decide +kernel
theorem dX3_become_16 : decode cX3_become 16 = .ok (.aload_n 1, 1) := by decide +kernel
theorem dX3_become_17 : decode cX3_become 17 = .ok (.getfield 21, 3) := by decide +kernel
theorem dX3_become_20 : decode cX3_become 20 = .ok (.putfield 21, 3) := by decide +kernel
theorem dX3_become_23 : decode cX3_become 23 = .ok (.aload_n 0, 1) := by decide +kernel
theorem dX3_become_24 : decode cX3_become 24 = .ok (.aload_n 1, 1) := by decide +kernel
theorem dX3_become_25 : decode cX3_become 25 = .ok (.getfield 25, 3) := by decide +kernel
theorem dX3_become_28 : decode cX3_become 28 = .ok (.putfield 25, 3) := by decide +kernel
theorem dX3_become_31 : decode cX3_become 31 = .ok (.return_, 1) := by decide +kernel
theorem dX3_clear_0 : decode cX3_clear 0 = .ok (.aload_n 0, 1) := by decide +kernel
theorem dX3_clear_1 : decode cX3_clear 1 = .ok (.iconst 0, 1) := by decide +kernel
theorem dX3_clear_2 : decode cX3_clear 2 = .ok (.putfield 21, 3) := by decide +kernel
theorem dX3_clear_5 : decode cX3_clear 5 = .ok (.aload_n 0, 1) := by decide +kernel
theorem dX3_clear_6 : decode cX3_clear 6 = .ok (.iconst 0, 1) := by decide +kernel
theorem dX3_clear_7 : decode cX3_clear 7 = .ok (.putfield 25, 3) := by decide +kernel
theorem dX3_clear_10 : decode cX3_clear 10 = .ok (.return_, 1) := by decide +kernel
theorem dX3_size_0 : decode cX3_size 0 = .ok (.aload_n 0, 1) := by decide +kernel
theorem dX3_size_1 : decode cX3_size 1 = .ok (.getfield 25, 3) := by decide +kernel
theorem dX3_size_4 : decode cX3_size 4 = .ok (.aload_n 0, 1) := by decide +kernel
theorem dX3_size_5 : decode cX3_size 5 = .ok (.getfield 21, 3) := by decide +kernel
theorem dX3_size_8 : decode cX3_size 8 = .ok (.isub, 1) := by decide +kernel
theorem dX3_size_9 : decode cX3_size 9 = .ok (.ireturn, 1) := by decide +kernel
theorem dX3_join_0 : decode cX3_join 0 = .ok (.aload_n 0, 1) := by decide +kernel
theorem dX3_join_1 : decode cX3_join 1 = .ok (.getfield 25, 3) := by decide +kernel
theorem dX3_join_4 : decode cX3_join 4 = .ok (.ifCond .lt 32, 3) := by decide +kernel
theorem dX3_join_7 : decode cX3_join 7 = .ok (.aload_n 0, 1) := by decide +kernel
theorem dX3_join_8 : decode cX3_join 8 = .ok (.getfield 25, 3) := by decide +kernel
theorem dX3_join_11 : decode cX3_join 11 = .ok (.bipush 124, 2) := by decide +kernel
