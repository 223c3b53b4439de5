theorem dX7_link_0 : decode cX7_link 0 = .ok (.aload_n 0, 1) := by decide +kernel
theorem dX7_link_1 : decode cX7_link 1 = .ok (.getfield 22, 3) := by decide +kernel
theorem dX7_link_4 : decode cX7_link 4 = .ok (.aload_n 0, 1) := by decide +kernel
theorem dX7_link_5 : decode cX7_link 5 = .ok (.getfield 12, 3) := by decide +kernel
theorem dX7_link_8 : decode cX7_link 8 = .ok (.invokevirtual 47, 3) := by decide +kernel
theorem dX7_link_11 : decode cX7_link 11 = .ok (.aload_n 0, 1) := by decide +kernel
theorem dX7_link_12 : decode cX7_link 12 = .ok (.aload_n 0, 1) := by decide +kernel
theorem dX7_link_13 : decode cX7_link 13 = .ok (.getfield 12, 3) := by decide +kernel
theorem dX7_link_16 : decode cX7_link 16 = .ok (.iload_n 1, 1) := by decide +kernel
theorem dX7_link_17 : decode cX7_link 17 = .ok (.iload_n 2, 1) := by decide +kernel
theorem dX7_link_18 : decode cX7_link 18 = .ok (.iload_n 3, 1) := by decide +kernel
theorem dX7_link_19 : decode cX7_link 19 = .ok (.invokevirtual 62, 3) := by decide +kernel
theorem dX7_link_22 : decode cX7_link 22 = .ok (.invokevirtual 55, 3) := by decide +kernel
theorem dX7_link_25 : decode cX7_link 25 = .ok (.ireturn, 1) := by decide +kernel
set_option maxRecDepth 20000 in
theorem ggX7_follow_X2_draft : GoodIn wsX7_follow wsX2_draft := goodIn_r _ [7, 8, 9, 10, 11, 6, 12, 13, 14, 15, 16, 17, 18, 19, 20, 21, 22, 23, 24, 25, 26, 27, 28, 29, 30, 31, 32, 33, 34, 35, 36, 37, 38, 39, 40, 41, 42, 43, 44, 45, 46, 47, 48, 49, 50, 51, 52, 53, 54, 55, 56, 57, 125, 126, 127, 128, 129, 130, 131, 132, 133, 134, 135, 136, 137, 138, 139, 140, 141, 142, 143, 144, 145] (by decide +kernel) (by decide +kernel)
set_option maxRecDepth 20000 in
theorem gX7_follow_X2_draft : GoodIn wsX7_follow (wsV RX7 47 RX2 yX2_draft wsX2_draft) := goodIn_app (goodIn_of _ (by decide +kernel)) ggX7_follow_X2_draft
set_option maxRecDepth 20000 in
theorem ggX7_follow_X5_followName : GoodIn wsX7_follow wsX5_followName := goodIn_r _ [61, 24, 29, 62, 63, 64, 65, 66, 67, 68, 69, 22, 70, 33, 30, 71, 72, 73, 74, 34, 75, 76, 77, 78, 79, 80, 81, 41, 82, 46, 83, 84, 85, 86, 45, 87, 88, 89, 90, 91, 92, 93, 94, 35, 95, 96, 97, 98, 99, 100, 101, 102, 43, 47, 48, 103, 104, 105, 52, 106, 57, 54, 107, 108, 109, 110, 128, 129, 130, 131, 132, 133, 134, 135, 136, 137, 138, 139, 140, 141, 142, 143, 144, 145] (by decide +kernel) (by decide +kernel)
set_option maxRecDepth 20000 in
theorem gX7_follow_X5_followName : GoodIn wsX7_follow (wsV RX7 66 RX5 yX5_followName wsX5_followName) := goodIn_app (goodIn_of _ (by decide +kernel)) ggX7_follow_X5_followName
set_option maxRecDepth 20000 in
theorem ggX7_follow_X7_recorded : GoodIn wsX7_follow wsX7_recorded := goodIn_r _ [114, 1, 115, 116, 117, 6, 118, 14, 13, 15, 16, 17, 18, 119, 120, 121, 122, 123, 124, 125, 126, 127] (by decide +kernel) (by decide +kernel)
set_option maxRecDepth 20000 in
theorem gX7_follow_X7_recorded : GoodIn wsX7_follow (wsV RX7 55 RX7 yX7_recorded wsX7_recorded) := goodIn_app (goodIn_of _ (by decide +kernel)) ggX7_follow_X7_recorded
theorem dX7_follow_0 : decode cX7_follow 0 = .ok (.aload_n 0, 1) := by decide +kernel
theorem dX7_follow_1 : decode cX7_follow 1 = .ok (.getfield 22, 3) := by decide +kernel
theorem dX7_follow_4 : decode cX7_follow 4 = .ok (.aload_n 0, 1) := by decide +kernel
theorem dX7_follow_5 : decode cX7_follow 5 = .ok (.getfield 12, 3) := by decide +kernel
theorem dX7_follow_8 : decode cX7_follow 8 = .ok (.invokevirtual 47, 3) := by decide +kernel
theorem dX7_follow_11 : decode cX7_follow 11 = .ok (.aload_n 0, 1) := by decide +kernel
theorem dX7_follow_12 : decode cX7_follow 12 = .ok (.aload_n 0, 1) := by decide +kernel
theorem dX7_follow_13 : decode cX7_follow 13 = .ok (.getfield 12, 3) := by decide +kernel
theorem dX7_follow_16 : decode cX7_follow 16 = .ok (.iload_n 1, 1) := by decide +kernel
theorem dX7_follow_17 : decode cX7_follow 17 = .ok (.iload_n 2, 1) := by decide +kernel
theorem dX7_follow_18 : decode cX7_follow 18 = .ok (.iload_n 3, 1) := by decide +kernel
theorem dX7_follow_19 : decode cX7_follow 19 = .ok (.invokevirtual 66, 3) := by decide +kernel
theorem dX7_follow_22 : decode cX7_follow 22 = .ok (.invokevirtual 55, 3) := by decide +kernel
theorem dX7_follow_25 : decode cX7_follow 25 = .ok (.ireturn, 1) := by decide +kernel
set_option maxRecDepth 20000 in
theorem ggX7_drop_X2_draft : GoodIn wsX7_drop wsX2_draft := goodIn_r _ [7, 8, 9, 10, 11, 6, 12, 13, 14, 15, 16, 17, 18, 19, 20, 21, 22, 23, 24, 25, 26, 27, 28, 29, 30, 31, 32, 33, 34, 35, 36, 37, 38, 39, 40, 41, 42, 43, 44, 45, 46, 47, 48, 49, 50, 51, 52, 53, 54, 55, 56, 57, 79, 80, 81, 82, 83, 84, 85, 86, 87, 88, 89, 90, 91, 92, 93, 94, 95, 96, 97, 98, 99] (by decide +kernel) (by decide +kernel)
set_option maxRecDepth 20000 in
theorem gX7_drop_X2_draft : GoodIn wsX7_drop (wsV RX7 47 RX2 yX2_draft wsX2_draft) := goodIn_app (goodIn_of _ (by decide +kernel)) ggX7_drop_X2_draft
set_option maxRecDepth 20000 in
theorem ggX7_drop_X5_dropHook : GoodIn wsX7_drop wsX5_dropHook := goodIn_r _ [61, 24, 62, 63, 64, 82, 83, 84, 85, 86, 87, 88, 89, 90, 91] (by decide +kernel) (by decide +kernel)
set_option maxRecDepth 20000 in
theorem gX7_drop_X5_dropHook : GoodIn wsX7_drop (wsV RX7 69 RX5 yX5_dropHook wsX5_dropHook) := goodIn_app (goodIn_of _ (by decide +kernel)) ggX7_drop_X5_dropHook
set_option maxRecDepth 20000 in
theorem ggX7_drop_X7_recorded : GoodIn wsX7_drop wsX7_recorded := goodIn_r _ [68, 1, 69, 70, 71, 6, 72, 14, 13, 15, 16, 17, 18, 73, 74, 75, 76, 77, 78, 79, 80, 81] (by decide +kernel) (by decide +kernel)
set_option maxRecDepth 20000 in
theorem gX7_drop_X7_recorded : GoodIn wsX7_drop (wsV RX7 55 RX7 yX7_recorded wsX7_recorded) := goodIn_app (goodIn_of _ (by decide +kernel)) ggX7_drop_X7_recorded
theorem dX7_drop_0 : decode cX7_drop 0 = .ok (.aload_n 0, 1) := by decide +kernel
theorem dX7_drop_1 : decode cX7_drop 1 = .ok (.getfield 22, 3) := by decide +kernel
theorem dX7_drop_4 : decode cX7_drop 4 = .ok (.aload_n 0, 1) := by decide +kernel
theorem dX7_drop_5 : decode cX7_drop 5 = .ok (.getfield 12, 3) := by decide +kernel
theorem dX7_drop_8 : decode cX7_drop 8 = .ok (.invokevirtual 47, 3) := by decide +kernel
theorem dX7_drop_11 : decode cX7_drop 11 = .ok (.aload_n 0, 1) := by decide +kernel
theorem dX7_drop_12 : decode cX7_drop 12 = .ok (.aload_n 0, 1) := by decide +kernel
theorem dX7_drop_13 : decode cX7_drop 13 = .ok (.getfield 12, 3) := by decide +kernel
theorem dX7_drop_16 : decode cX7_drop 16 = .ok (.iload_n 1, 1) := by decide +kernel
theorem dX7_drop_17 : decode cX7_drop 17 = .ok (.invokevirtual 69, 3) := by decide +kernel
theorem dX7_drop_20 : decode cX7_drop 20 = .ok (.invokevirtual 55, 3) := by decide +kernel
theorem dX7_drop_23 : decode cX7_drop 23 = .ok (.ireturn, 1) := by decide +kernel
set_option maxRecDepth 20000 in
theorem ggX7_begin_X2_draft : GoodIn wsX7_begin wsX2_draft := goodIn_r _ [7, 8, 9, 10, 11, 6, 12, 13, 14, 15, 16, 17, 18, 19, 20, 21, 22, 23, 24, 25, 26, 27, 28, 29, 30, 31, 32, 33, 34, 35, 36, 37, 38, 39, 40, 41, 42, 43, 44, 45, 46, 47, 48, 49, 50, 51, 52, 53, 54, 55, 56, 57, 145, 146, 147, 148, 149, 150, 151, 152, 153, 154, 155, 156, 157, 158, 159, 160, 161, 162, 163, 164, 165] (by decide +kernel) (by decide +kernel)
set_option maxRecDepth 20000 in
theorem gX7_begin_X2_draft : GoodIn wsX7_begin (wsV RX7 47 RX2 yX2_draft wsX2_draft) := goodIn_app (goodIn_of _ (by decide +kernel)) ggX7_begin_X2_draft
set_option maxRecDepth 20000 in
theorem ggX7_begin_X5_beginMove : GoodIn wsX7_begin wsX5_beginMove := goodIn_r _ [61, 33, 34, 35, 30, 24, 62, 63, 64, 52, 65, 56, 57, 66, 67, 68, 22, 69, 29, 70, 71, 72, 73, 74, 75, 76, 77, 78, 79, 80, 41, 81, 46, 82, 83, 84, 85, 45, 86, 87, 88, 89, 90, 91, 92, 93, 94, 95, 96, 97, 98, 99, 100, 101, 43, 47, 48, 102, 103, 104, 105, 54, 106, 107, 108, 109, 110, 111, 112, 113, 114, 115, 116, 117, 37, 118, 119, 120, 121, 122, 123, 124, 125, 126, 127, 128, 129, 148, 149, 150, 151, 152, 153, 154, 155, 156, 157, 163, 164, 165, 158, 159, 160, 161, 162] (by decide +kernel) (by decide +kernel)
set_option maxRecDepth 20000 in
theorem gX7_begin_X5_beginMove : GoodIn wsX7_begin (wsV RX7 72 RX5 yX5_beginMove wsX5_beginMove) := goodIn_app (goodIn_of _ (by decide +kernel)) ggX7_begin_X5_beginMove
set_option maxRecDepth 20000 in
theorem ggX7_begin_X7_recorded : GoodIn wsX7_begin wsX7_recorded := goodIn_r _ [134, 1, 135, 136, 137, 6, 138, 14, 13, 15, 16, 17, 18, 139, 140, 141, 142, 143, 144, 145, 146, 147] (by decide +kernel) (by decide +kernel)
set_option maxRecDepth 20000 in
theorem gX7_begin_X7_recorded : GoodIn wsX7_begin (wsV RX7 55 RX7 yX7_recorded wsX7_recorded) := goodIn_app (goodIn_of _ (by decide +kernel)) ggX7_begin_X7_recorded
theorem dX7_begin_0 : decode cX7_begin 0 = .ok (.aload_n 0, 1) := by decide +kernel
theorem dX7_begin_1 : decode cX7_begin 1 = .ok (.getfield 22, 3) := by decide +kernel
theorem dX7_begin_4 : decode cX7_begin 4 = .ok (.aload_n 0, 1) := by decide +kernel
theorem dX7_begin_5 : decode cX7_begin 5 = .ok (.getfield 12, 3) := by decide +kernel
theorem dX7_begin_8 : decode cX7_begin 8 = .ok (.invokevirtual 47, 3) := by decide +kernel
theorem dX7_begin_11 : decode cX7_begin 11 = .ok (.aload_n 0, 1) := by decide +kernel
theorem dX7_begin_12 : decode cX7_begin 12 = .ok (.aload_n 0, 1) := by decide +kernel
theorem dX7_begin_13 : decode cX7_begin 13 = .ok (.getfield 12, 3) := by decide +kernel
theorem dX7_begin_16 : decode cX7_begin 16 = .ok (.invokevirtual 72, 3) := by decide +kernel
theorem dX7_begin_19 : decode cX7_begin 19 = .ok (.invokevirtual 55, 3) := by decide +kernel
theorem dX7_begin_22 : decode cX7_begin 22 = .ok (.ireturn, 1) := by decide +kernel
set_option maxRecDepth 20000 in
theorem ggX7_carry_X2_draft : GoodIn wsX7_carry wsX2_draft := goodIn_r _ [7, 8, 9, 10, 11, 6, 12, 13, 14, 15, 16, 17, 18, 19, 20, 21, 22, 23, 24, 25, 26, 27, 28, 29, 30, 31, 32, 33, 34, 35, 36, 37, 38, 39, 40, 41, 42, 43, 44, 45, 46, 47, 48, 49, 50, 51, 52, 53, 54, 55, 56, 57, 149, 150, 151, 152, 153, 154, 155, 156, 157, 158, 159, 160, 161, 162, 163, 164, 165, 166, 167, 168, 169] (by decide +kernel) (by decide +kernel)
set_option maxRecDepth 20000 in
theorem gX7_carry_X2_draft : GoodIn wsX7_carry (wsV RX7 47 RX2 yX2_draft wsX2_draft) := goodIn_app (goodIn_of _ (by decide +kernel)) ggX7_carry_X2_draft
set_option maxRecDepth 20000 in
theorem ggX7_carry_X5_carrySteps : GoodIn wsX7_carry wsX5_carrySteps := goodIn_r _ [61, 33, 62, 63, 64, 22, 65, 30, 29, 66, 67, 68, 52, 69, 56, 57, 54, 70, 71, 72, 73, 74, 75, 76, 77, 34, 78, 79, 80, 81, 82, 83, 84, 41, 85, 46, 86, 87, 88, 89, 45, 90, 91, 92, 93, 94, 95, 96, 97, 35, 98, 99, 100, 101, 102, 103, 104, 105, 43, 47, 48, 106, 107, 108, 109, 110, 111, 112, 113, 114, 115, 116, 117, 118, 119, 120, 121, 37, 122, 123, 124, 125, 126, 127, 128, 129, 130, 131, 132, 133, 152, 153, 154, 155, 156, 157, 158, 159, 160, 161, 162, 163, 164, 165, 166, 167, 168, 169] (by decide +kernel) (by decide +kernel)
set_option maxRecDepth 20000 in
theorem gX7_carry_X5_carrySteps : GoodIn wsX7_carry (wsV RX7 76 RX5 yX5_carrySteps wsX5_carrySteps) := goodIn_app (goodIn_of _ (by decide +kernel)) ggX7_carry_X5_carrySteps
set_option maxRecDepth 20000 in
theorem ggX7_carry_X7_recorded : GoodIn wsX7_carry wsX7_recorded := goodIn_r _ [138, 1, 139, 140, 141, 6, 142, 14, 13, 15, 16, 17, 18, 143, 144, 145, 146, 147, 148, 149, 150, 151] (by decide +kernel) (by decide +kernel)
set_option maxRecDepth 20000 in
theorem gX7_carry_X7_recorded : GoodIn wsX7_carry (wsV RX7 55 RX7 yX7_recorded wsX7_recorded) := goodIn_app (goodIn_of _ (by decide +kernel)) ggX7_carry_X7_recorded
theorem dX7_carry_0 : decode cX7_carry 0 = .ok (.aload_n 0, 1) := by decide +kernel
theorem dX7_carry_1 : decode cX7_carry 1 = .ok (.getfield 22, 3) := by decide +kernel
theorem dX7_carry_4 : decode cX7_carry 4 = .ok (.aload_n 0, 1) := by decide +kernel
theorem dX7_carry_5 : decode cX7_carry 5 = .ok (.getfield 12, 3) := by decide +kernel
theorem dX7_carry_8 : decode cX7_carry 8 = .ok (.invokevirtual 47, 3) := by decide +kernel
theorem dX7_carry_11 : decode cX7_carry 11 = .ok (.aload_n 0, 1) := by decide +kernel
theorem dX7_carry_12 : decode cX7_carry 12 = .ok (.aload_n 0, 1) := by decide +kernel
theorem dX7_carry_13 : decode cX7_carry 13 = .ok (.getfield 12, 3) := by decide +kernel
theorem dX7_carry_16 : decode cX7_carry 16 = .ok (.iload_n 1, 1) := by decide +kernel
theorem dX7_carry_17 : decode cX7_carry 17 = .ok (.invokevirtual 76, 3) := by decide +kernel
theorem dX7_carry_20 : decode cX7_carry 20 = .ok (.invokevirtual 55, 3) := by decide +kernel
theorem dX7_carry_23 : decode cX7_carry 23 = .ok (.ireturn, 1) := by decide +kernel
set_option maxRecDepth 20000 in
theorem ggX7_lose_X2_draft : GoodIn wsX7_lose wsX2_draft := goodIn_r _ [7, 8, 9, 10, 11, 6, 12, 13, 14, 15, 16, 17, 18, 19, 20, 21, 22, 23, 24, 25, 26, 27, 28, 29, 30, 31, 32, 33, 34, 35, 36, 37, 38, 39, 40, 41, 42, 43, 44, 45, 46, 47, 48, 49, 50, 51, 52, 53, 54, 55, 56, 57, 117, 118, 119, 120, 121, 122, 123, 124, 125, 126, 127, 128, 129, 130, 131, 132, 133, 134, 135, 136, 137] (by decide +kernel) (by decide +kernel)
set_option maxRecDepth 20000 in
theorem gX7_lose_X2_draft : GoodIn wsX7_lose (wsV RX7 47 RX2 yX2_draft wsX2_draft) := goodIn_app (goodIn_of _ (by decide +kernel)) ggX7_lose_X2_draft
set_option maxRecDepth 20000 in
theorem ggX7_lose_X5_loseNote : GoodIn wsX7_lose wsX5_loseNote := goodIn_r _ [61, 29, 36, 62, 63, 64, 22, 65, 32, 66, 67, 68, 69, 70, 71, 72, 41, 73, 43, 74, 75, 76, 77, 45, 78, 79, 80, 81, 46, 82, 83, 84, 85, 35, 86, 87, 88, 89, 34, 33, 90, 91, 92, 93, 94, 95, 96, 97, 98, 99, 100, 101, 120, 121, 122, 123, 124, 125, 126, 127, 128, 129, 130, 131, 132, 133, 134] (by decide +kernel) (by decide +kernel)
set_option maxRecDepth 20000 in
theorem gX7_lose_X5_loseNote : GoodIn wsX7_lose (wsV RX7 79 RX5 yX5_loseNote wsX5_loseNote) := goodIn_app (goodIn_of _ (by decide +kernel)) ggX7_lose_X5_loseNote
set_option maxRecDepth 20000 in
theorem ggX7_lose_X7_recorded : GoodIn wsX7_lose wsX7_recorded := goodIn_r _ [106, 1, 107, 108, 109, 6, 110, 14, 13, 15, 16, 17, 18, 111, 112, 113, 114, 115, 116, 117, 118, 119] (by decide +kernel) (by decide +kernel)
set_option maxRecDepth 20000 in
theorem gX7_lose_X7_recorded : GoodIn wsX7_lose (wsV RX7 55 RX7 yX7_recorded wsX7_recorded) := goodIn_app (goodIn_of _ (by decide +kernel)) ggX7_lose_X7_recorded
theorem dX7_lose_0 : decode cX7_lose 0 = .ok (.aload_n 0, 1) := by decide +kernel
theorem dX7_lose_1 : decode cX7_lose 1 = .ok (.getfield 22, 3) := by decide +kernel
theorem dX7_lose_4 : decode cX7_lose 4 = .ok (.aload_n 0, 1) := by decide +kernel
theorem dX7_lose_5 : decode cX7_lose 5 = .ok (.getfield 12, 3) := by decide +kernel
theorem dX7_lose_8 : decode cX7_lose 8 = .ok (.invokevirtual 47, 3) := by decide +kernel
theorem dX7_lose_11 : decode cX7_lose 11 = .ok (.aload_n 0, 1) := by decide +kernel
theorem dX7_lose_12 : decode cX7_lose 12 = .ok (.aload_n 0, 1) := by decide +kernel
theorem dX7_lose_13 : decode cX7_lose 13 = .ok (.getfield 12, 3) := by decide +kernel
theorem dX7_lose_16 : decode cX7_lose 16 = .ok (.iload_n 1, 1) := by decide +kernel
theorem dX7_lose_17 : decode cX7_lose 17 = .ok (.invokevirtual 79, 3) := by decide +kernel
theorem dX7_lose_20 : decode cX7_lose 20 = .ok (.invokevirtual 55, 3) := by decide +kernel
theorem dX7_lose_23 : decode cX7_lose 23 = .ok (.ireturn, 1) := by decide +kernel
set_option maxRecDepth 20000 in
theorem ggX7_mend_X2_draft : GoodIn wsX7_mend wsX2_draft := goodIn_r _ [7, 8, 9, 10, 11, 6, 12, 13, 14, 15, 16, 17, 18, 19, 20, 21, 22, 23, 24, 25, 26, 27, 28, 29, 30, 31, 32, 33, 34, 35, 36, 37, 38, 39, 40, 41, 42, 43, 44, 45, 46, 47, 48, 49, 50, 51, 52, 53, 54, 55, 56, 57, 118, 119, 120, 121, 122, 123, 124, 125, 126, 127, 128, 129, 130, 131, 132, 133, 134, 135, 136, 137, 138] (by decide +kernel) (by decide +kernel)
set_option maxRecDepth 20000 in
theorem gX7_mend_X2_draft : GoodIn wsX7_mend (wsV RX7 47 RX2 yX2_draft wsX2_draft) := goodIn_app (goodIn_of _ (by decide +kernel)) ggX7_mend_X2_draft
set_option maxRecDepth 20000 in
theorem ggX7_mend_X5_mendTwins : GoodIn wsX7_mend wsX5_mendTwins := goodIn_r _ [61, 33, 29, 62, 63, 64, 22, 65, 32, 66, 67, 68, 69, 70, 71, 72, 41, 73, 43, 74, 75, 76, 77, 45, 78, 79, 80, 81, 34, 82, 83, 84, 85, 86, 87, 88, 89, 90, 91, 92, 93, 94, 95, 96, 97, 98, 48, 99, 100, 101, 102, 24, 121, 122, 123, 124, 125, 126, 127, 128, 129, 130, 131, 132, 133, 134, 135] (by decide +kernel) (by decide +kernel)
set_option maxRecDepth 20000 in
theorem gX7_mend_X5_mendTwins : GoodIn wsX7_mend (wsV RX7 82 RX5 yX5_mendTwins wsX5_mendTwins) := goodIn_app (goodIn_of _ (by decide +kernel)) ggX7_mend_X5_mendTwins
set_option maxRecDepth 20000 in
theorem ggX7_mend_X7_recorded : GoodIn wsX7_mend wsX7_recorded := goodIn_r _ [107, 1, 108, 109, 110, 6, 111, 14, 13, 15, 16, 17, 18, 112, 113, 114, 115, 116, 117, 118, 119, 120] (by decide +kernel) (by decide +kernel)
set_option maxRecDepth 20000 in
theorem gX7_mend_X7_recorded : GoodIn wsX7_mend (wsV RX7 55 RX7 yX7_recorded wsX7_recorded) := goodIn_app (goodIn_of _ (by decide +kernel)) ggX7_mend_X7_recorded
theorem dX7_mend_0 : decode cX7_mend 0 = .ok (.aload_n 0, 1) := by decide +kernel
theorem dX7_mend_1 : decode cX7_mend 1 = .ok (.getfield 22, 3) := by decide +kernel
theorem dX7_mend_4 : decode cX7_mend 4 = .ok (.aload_n 0, 1) := by decide +kernel
theorem dX7_mend_5 : decode cX7_mend 5 = .ok (.getfield 12, 3) := by decide +kernel
theorem dX7_mend_8 : decode cX7_mend 8 = .ok (.invokevirtual 47, 3) := by decide +kernel
theorem dX7_mend_11 : decode cX7_mend 11 = .ok (.aload_n 0, 1) := by decide +kernel
theorem dX7_mend_12 : decode cX7_mend 12 = .ok (.aload_n 0, 1) := by decide +kernel
theorem dX7_mend_13 : decode cX7_mend 13 = .ok (.getfield 12, 3) := by decide +kernel
theorem dX7_mend_16 : decode cX7_mend 16 = .ok (.iload_n 1, 1) := by decide +kernel
theorem dX7_mend_17 : decode cX7_mend 17 = .ok (.invokevirtual 82, 3) := by decide +kernel
theorem dX7_mend_20 : decode cX7_mend 20 = .ok (.invokevirtual 55, 3) := by decide +kernel
theorem dX7_mend_23 : decode cX7_mend 23 = .ok (.ireturn, 1) := by decide +kernel
set_option maxRecDepth 20000 in
theorem ggX7_count_X2_size : GoodIn wsX7_count wsX2_size := goodIn_r _ [8, 9, 96, 97, 98] (by decide +kernel) (by decide +kernel)
set_option maxRecDepth 20000 in
theorem gX7_count_X2_size : GoodIn wsX7_count (wsV RX7 85 RX2 yX2_size wsX2_size) := goodIn_app (goodIn_of _ (by decide +kernel)) ggX7_count_X2_size
set_option maxRecDepth 20000 in
theorem ggX7_count_X6_size : GoodIn wsX7_count wsX6_size := goodIn_r _ [14, 15, 99, 100] (by decide +kernel) (by decide +kernel)
set_option maxRecDepth 20000 in
theorem gX7_count_X6_size : GoodIn wsX7_count (wsV RX7 94 RX6 yX6_size wsX6_size) := goodIn_app (goodIn_of _ (by decide +kernel)) ggX7_count_X6_size
set_option maxRecDepth 20000 in
theorem ggX7_count_X5_numberOf : GoodIn wsX7_count wsX5_numberOf := goodIn_r _ [20, 21, 22, 23, 24, 25, 26, 27, 28, 29, 30, 31, 32, 33, 34, 35, 36, 37, 38, 39, 40, 41, 19, 42, 43, 44, 45, 46, 47, 48, 49, 50, 51, 52, 53, 54, 55, 56, 57, 58, 59, 60, 61, 62, 63, 64, 65, 66, 67, 68, 69, 70, 71, 72, 73, 74, 75, 76, 77, 78, 79, 80, 81, 82, 83, 84, 85, 86, 87, 88, 89, 101, 102, 103, 104, 105, 106, 107, 108, 109, 110, 111, 112, 113, 114, 115, 116, 117, 118] (by decide +kernel) (by decide +kernel)
set_option maxRecDepth 20000 in
theorem gX7_count_X5_numberOf : GoodIn wsX7_count (wsV RX7 112 RX5 yX5_numberOf wsX5_numberOf) := goodIn_app (goodIn_of _ (by decide +kernel)) ggX7_count_X5_numberOf
theorem dX7_count_0 : decode cX7_count 0 = .ok (.iload_n 1, 1) := by decide +kernel
theorem dX7_count_1 : decode cX7_count 1 = .ok (.lookupswitch 43 #[(12, 27), (13, 35)], 27) := by decide +kernel
theorem dX7_count_28 : decode cX7_count 28 = .ok (.aload_n 0, 1) := by decide +kernel
theorem dX7_count_29 : decode cX7_count 29 = .ok (.getfield 22, 3) := by decide +kernel
theorem dX7_count_32 : decode cX7_count 32 = .ok (.invokevirtual 85, 3) := by decide +kernel
theorem dX7_count_35 : decode cX7_count 35 = .ok (.ireturn, 1) := by decide +kernel
theorem dX7_count_36 : decode cX7_count 36 = .ok (.aload_n 0, 1) := by decide +kernel
theorem dX7_count_37 : decode cX7_count 37 = .ok (.getfield 36, 3) := by decide +kernel
theorem dX7_count_40 : decode cX7_count 40 = .ok (.invokevirtual 94, 3) := by decide +kernel
theorem dX7_count_43 : decode cX7_count 43 = .ok (.ireturn, 1) := by decide +kernel
theorem dX7_count_44 : decode cX7_count 44 = .ok (.aload_n 0, 1) := by decide +kernel
theorem dX7_count_45 : decode cX7_count 45 = .ok (.getfield 12, 3) := by decide +kernel
theorem dX7_count_48 : decode cX7_count 48 = .ok (.iload_n 1, 1) := by decide +kernel
theorem dX7_count_49 : decode cX7_count 49 = .ok (.invokevirtual 112, 3) := by decide +kernel
theorem dX7_count_52 : decode cX7_count 52 = .ok (.ireturn, 1) := by decide +kernel
set_option maxRecDepth 20000 in
theorem ggX7_hook_X7_isHook : GoodIn wsX7_hook wsX7_isHook := goodIn_r _ [5] (by decide +kernel) (by decide +kernel)
set_option maxRecDepth 20000 in
theorem gX7_hook_X7_isHook : GoodIn wsX7_hook (va_wsS RX7 115 yX7_isHook wsX7_isHook) := goodIn_app (goodIn_of _ (by decide +kernel)) ggX7_hook_X7_isHook
set_option maxRecDepth 20000 in
theorem ggX7_hook_X5_hungOn : GoodIn wsX7_hook wsX5_hungOn := goodIn_r _ [10, 11, 3, 4, 5, 21, 22, 23, 24, 25, 26, 27, 28, 29, 30] (by decide +kernel) (by decide +kernel)
set_option maxRecDepth 20000 in
theorem gX7_hook_X5_hungOn : GoodIn wsX7_hook (wsV RX7 119 RX5 yX5_hungOn wsX5_hungOn) := goodIn_app (goodIn_of _ (by decide +kernel)) ggX7_hook_X5_hungOn
set_option maxRecDepth 20000 in
theorem ggX7_hook_X7_orNone : GoodIn wsX7_hook wsX7_orNone := goodIn_r _ [14] (by decide +kernel) (by decide +kernel)
set_option maxRecDepth 20000 in
theorem gX7_hook_X7_orNone : GoodIn wsX7_hook (va_wsS RX7 122 yX7_orNone wsX7_orNone) := goodIn_app (goodIn_of _ (by decide +kernel)) ggX7_hook_X7_orNone
theorem dX7_hook_0 : decode cX7_hook 0 = .ok (.iload_n 1, 1) := by decide +kernel
theorem dX7_hook_1 : decode cX7_hook 1 = .ok (.invokestatic 115, 3) := by decide +kernel
theorem dX7_hook_4 : decode cX7_hook 4 = .ok (.ifCond .ne 5, 3) := by decide +kernel
theorem dX7_hook_7 : decode cX7_hook 7 = .ok (.iconst (-1), 1) := by decide +kernel
theorem dX7_hook_8 : decode cX7_hook 8 = .ok (.ireturn, 1) := by decide +kernel
theorem dX7_hook_9 : decode cX7_hook 9 = .ok (.aload_n 0, 1) := by decide +kernel
theorem dX7_hook_10 : decode cX7_hook 10 = .ok (.getfield 12, 3) := by decide +kernel
theorem dX7_hook_13 : decode cX7_hook 13 = .ok (.iload_n 1, 1) := by decide +kernel
theorem dX7_hook_14 : decode cX7_hook 14 = .ok (.invokevirtual 119, 3) := by decide +kernel
theorem dX7_hook_17 : decode cX7_hook 17 = .ok (.invokestatic 122, 3) := by decide +kernel
theorem dX7_hook_20 : decode cX7_hook 20 = .ok (.ireturn, 1) := by decide +kernel
set_option maxRecDepth 20000 in
theorem ggX7_copy_X0_isAt : GoodIn wsX7_copy wsX0_isAt := goodIn_r _ [6, 7, 55, 56, 57, 58, 59] (by decide +kernel) (by decide +kernel)
set_option maxRecDepth 20000 in
theorem gX7_copy_X0_isAt : GoodIn wsX7_copy (wsV RX7 129 RX0 yX0_isAt wsX0_isAt) := goodIn_app (goodIn_of _ (by decide +kernel)) ggX7_copy_X0_isAt
set_option maxRecDepth 20000 in
theorem ggX7_copy_X0_thingAt : GoodIn wsX7_copy wsX0_thingAt := goodIn_r _ [11, 12, 13, 3, 4, 5, 6, 7, 55, 56, 57, 58, 59] (by decide +kernel) (by decide +kernel)
set_option maxRecDepth 20000 in
theorem gX7_copy_X0_thingAt : GoodIn wsX7_copy (wsV RX7 134 RX0 yX0_thingAt wsX0_thingAt) := goodIn_app (goodIn_of _ (by decide +kernel)) ggX7_copy_X0_thingAt
set_option maxRecDepth 20000 in
theorem ggX7_copy_X0_sizeAt : GoodIn wsX7_copy wsX0_sizeAt := goodIn_r _ [17, 7, 13, 3, 4, 5, 6, 55, 56, 57, 58, 59] (by decide +kernel) (by decide +kernel)
set_option maxRecDepth 20000 in
theorem gX7_copy_X0_sizeAt : GoodIn wsX7_copy (wsV RX7 137 RX0 yX0_sizeAt wsX0_sizeAt) := goodIn_app (goodIn_of _ (by decide +kernel)) ggX7_copy_X0_sizeAt
set_option maxRecDepth 20000 in
theorem ggX7_copy_X0_noteAt : GoodIn wsX7_copy wsX0_noteAt := goodIn_r _ [21, 22, 13, 3, 4, 5, 6, 7, 55, 56, 57, 58, 59] (by decide +kernel) (by decide +kernel)
set_option maxRecDepth 20000 in
theorem gX7_copy_X0_noteAt : GoodIn wsX7_copy (wsV RX7 140 RX0 yX0_noteAt wsX0_noteAt) := goodIn_app (goodIn_of _ (by decide +kernel)) ggX7_copy_X0_noteAt
set_option maxRecDepth 20000 in
theorem ggX7_copy_X7_orNone : GoodIn wsX7_copy wsX7_orNone := goodIn_r _ [26] (by decide +kernel) (by decide +kernel)
set_option maxRecDepth 20000 in
theorem gX7_copy_X7_orNone : GoodIn wsX7_copy (va_wsS RX7 122 yX7_orNone wsX7_orNone) := goodIn_app (goodIn_of _ (by decide +kernel)) ggX7_copy_X7_orNone
set_option maxRecDepth 20000 in
theorem ggX7_copy_X0_isMarked : GoodIn wsX7_copy wsX0_isMarked := goodIn_r _ [30, 31, 13, 3, 4, 5, 6, 7, 55, 56, 57, 58, 59] (by decide +kernel) (by decide +kernel)
set_option maxRecDepth 20000 in
theorem gX7_copy_X0_isMarked : GoodIn wsX7_copy (wsV RX7 143 RX0 yX0_isMarked wsX0_isMarked) := goodIn_app (goodIn_of _ (by decide +kernel)) ggX7_copy_X0_isMarked
set_option maxRecDepth 20000 in
theorem ggX7_copy_X0_nameAt : GoodIn wsX7_copy wsX0_nameAt := goodIn_r _ [35, 36, 13, 3, 4, 5, 6, 7, 37, 25, 38, 55, 56, 57, 58, 59] (by decide +kernel) (by decide +kernel)
set_option maxRecDepth 20000 in
theorem gX7_copy_X0_nameAt : GoodIn wsX7_copy (wsV RX7 146 RX0 yX0_nameAt wsX0_nameAt) := goodIn_app (goodIn_of _ (by decide +kernel)) ggX7_copy_X0_nameAt
theorem dX7_copy_0 : decode cX7_copy 0 = .ok (.aload_n 0, 1) := by decide +kernel
theorem dX7_copy_1 : decode cX7_copy 1 = .ok (.getfield 12, 3) := by decide +kernel
theorem dX7_copy_4 : decode cX7_copy 4 = .ok (.getfield 125, 3) := by decide +kernel
theorem dX7_copy_7 : decode cX7_copy 7 = .ok (.astore_n 3, 1) := by decide +kernel
theorem dX7_copy_8 : decode cX7_copy 8 = .ok (.aload_n 3, 1) := by decide +kernel
theorem dX7_copy_9 : decode cX7_copy 9 = .ok (.iload_n 1, 1) := by decide +kernel
theorem dX7_copy_10 : decode cX7_copy 10 = .ok (.invokevirtual 129, 3) := by decide +kernel
theorem dX7_copy_13 : decode cX7_copy 13 = .ok (.ifCond .ne 5, 3) := by decide +kernel
theorem dX7_copy_16 : decode cX7_copy 16 = .ok (.iconst (-1), 1) := by decide +kernel
theorem dX7_copy_17 : decode cX7_copy 17 = .ok (.ireturn, 1) := by decide +kernel
theorem dX7_copy_18 : decode cX7_copy 18 = .ok (.iload_n 2, 1) := by decide +kernel
theorem dX7_copy_19 : decode cX7_copy 19 = .ok (.tableswitch 92 0 5 #[37, 43, 49, 58, 72, 82], 37) := by decide +kernel
theorem dX7_copy_56 : decode cX7_copy 56 = .ok (.aload_n 3, 1) := by decide +kernel
theorem dX7_copy_57 : decode cX7_copy 57 = .ok (.iload_n 1, 1) := by decide +kernel
theorem dX7_copy_58 : decode cX7_copy 58 = .ok (.invokevirtual 134, 3) := by decide +kernel
theorem dX7_copy_61 : decode cX7_copy 61 = .ok (.ireturn, 1) := by decide +kernel
theorem dX7_copy_62 : decode cX7_copy 62 = .ok (.aload_n 3, 1) := by decide +kernel
theorem dX7_copy_63 : decode cX7_copy 63 = .ok (.iload_n 1, 1) := by decide +kernel
theorem dX7_copy_64 : decode cX7_copy 64 = .ok (.invokevirtual 137, 3) := by decide +kernel
theorem dX7_copy_67 : decode cX7_copy 67 = .ok (.ireturn, 1) := by decide +kernel
theorem dX7_copy_68 : decode cX7_copy 68 = .ok (.aload_n 3, 1) := by decide +kernel
theorem dX7_copy_69 : decode cX7_copy 69 = .ok (.iload_n 1, 1) := by decide +kernel
theorem dX7_copy_70 : decode cX7_copy 70 = .ok (.invokevirtual 140, 3) := by decide +kernel
theorem dX7_copy_73 : decode cX7_copy 73 = .ok (.invokestatic 122, 3) := by decide +kernel
theorem dX7_copy_76 : decode cX7_copy 76 = .ok (.ireturn, 1) := by decide +kernel
theorem dX7_copy_77 : decode cX7_copy 77 = .ok (.aload_n 3, 1) := by decide +kernel
theorem dX7_copy_78 : decode cX7_copy 78 = .ok (.iload_n 1, 1) := by decide +kernel
theorem dX7_copy_79 : decode cX7_copy 79 = .ok (.invokevirtual 143, 3) := by decide +kernel
theorem dX7_copy_82 : decode cX7_copy 82 = .ok (.ifCond .eq 7, 3) := by decide +kernel
theorem dX7_copy_85 : decode cX7_copy 85 = .ok (.iconst 1, 1) := by decide +kernel
theorem dX7_copy_86 : decode cX7_copy 86 = .ok (.goto 4, 3) := by decide +kernel
theorem dX7_copy_89 : decode cX7_copy 89 = .ok (.iconst 0, 1) := by decide +kernel
theorem dX7_copy_90 : decode cX7_copy 90 = .ok (.ireturn, 1) := by decide +kernel
theorem dX7_copy_91 : decode cX7_copy 91 = .ok (.aload_n 3, 1) := by decide +kernel
theorem dX7_copy_92 : decode cX7_copy 92 = .ok (.iload_n 1, 1) := by decide +kernel
theorem dX7_copy_93 : decode cX7_copy 93 = .ok (.iconst 0, 1) := by decide +kernel
theorem dX7_copy_94 : decode cX7_copy 94 = .ok (.invokevirtual 146, 3) := by decide +kernel
theorem dX7_copy_97 : decode cX7_copy 97 = .ok (.invokestatic 122, 3) := by decide +kernel
theorem dX7_copy_100 : decode cX7_copy 100 = .ok (.ireturn, 1) := by decide +kernel
theorem dX7_copy_101 : decode cX7_copy 101 = .ok (.aload_n 3, 1) := by decide +kernel
theorem dX7_copy_102 : decode cX7_copy 102 = .ok (.iload_n 1, 1) := by decide +kernel
theorem dX7_copy_103 : decode cX7_copy 103 = .ok (.iconst 1, 1) := by decide +kernel
theorem dX7_copy_104 : decode cX7_copy 104 = .ok (.invokevirtual 146, 3) := by decide +kernel
theorem dX7_copy_107 : decode cX7_copy 107 = .ok (.invokestatic 122, 3) := by decide +kernel
theorem dX7_copy_110 : decode cX7_copy 110 = .ok (.ireturn, 1) := by decide +kernel
theorem dX7_copy_111 : decode cX7_copy 111 = .ok (.iconst (-1), 1) := by decide +kernel
theorem dX7_copy_112 : decode cX7_copy 112 = .ok (.ireturn, 1) := by decide +kernel
set_option maxRecDepth 20000 in
theorem ggX7_where_X5_isThing : GoodIn wsX7_where wsX5_isThing := goodIn_r _ [6, 7, 33, 34, 35, 36, 37, 38, 39, 40, 41, 42] (by decide +kernel) (by decide +kernel)
set_option maxRecDepth 20000 in
theorem gX7_where_X5_isThing : GoodIn wsX7_where (wsV RX7 149 RX5 yX5_isThing wsX5_isThing) := goodIn_app (goodIn_of _ (by decide +kernel)) ggX7_where_X5_isThing
set_option maxRecDepth 20000 in
theorem ggX7_where_X0_addressOf : GoodIn wsX7_where wsX0_addressOf := goodIn_r _ [12, 13, 14, 15, 11, 16, 17, 18, 19, 20, 21, 22, 43, 44, 45, 46, 47] (by decide +kernel) (by decide +kernel)
set_option maxRecDepth 20000 in
theorem gX7_where_X0_addressOf : GoodIn wsX7_where (wsV RX7 152 RX0 yX0_addressOf wsX0_addressOf) := goodIn_app (goodIn_of _ (by decide +kernel)) ggX7_where_X0_addressOf
set_option maxRecDepth 20000 in
theorem ggX7_where_X7_orNone : GoodIn wsX7_where wsX7_orNone := goodIn_r _ [26] (by decide +kernel) (by decide +kernel)
set_option maxRecDepth 20000 in
theorem gX7_where_X7_orNone : GoodIn wsX7_where (va_wsS RX7 122 yX7_orNone wsX7_orNone) := goodIn_app (goodIn_of _ (by decide +kernel)) ggX7_where_X7_orNone
theorem dX7_where_0 : decode cX7_where 0 = .ok (.aload_n 0, 1) := by decide +kernel
theorem dX7_where_1 : decode cX7_where 1 = .ok (.getfield 12, 3) := by decide +kernel
theorem dX7_where_4 : decode cX7_where 4 = .ok (.iload_n 1, 1) := by decide +kernel
theorem dX7_where_5 : decode cX7_where 5 = .ok (.invokevirtual 149, 3) := by decide +kernel
theorem dX7_where_8 : decode cX7_where 8 = .ok (.ifCond .eq 7, 3) := by decide +kernel
theorem dX7_where_11 : decode cX7_where 11 = .ok (.iload_n 2, 1) := by decide +kernel
theorem dX7_where_12 : decode cX7_where 12 = .ok (.ifCond .ge 5, 3) := by decide +kernel
theorem dX7_where_15 : decode cX7_where 15 = .ok (.iconst (-1), 1) := by decide +kernel
theorem dX7_where_16 : decode cX7_where 16 = .ok (.ireturn, 1) := by decide +kernel
theorem dX7_where_17 : decode cX7_where 17 = .ok (.aload_n 0, 1) := by decide +kernel
theorem dX7_where_18 : decode cX7_where 18 = .ok (.getfield 12, 3) := by decide +kernel
theorem dX7_where_21 : decode cX7_where 21 = .ok (.getfield 125, 3) := by decide +kernel
theorem dX7_where_24 : decode cX7_where 24 = .ok (.iload_n 1, 1) := by decide +kernel
theorem dX7_where_25 : decode cX7_where 25 = .ok (.iload_n 2, 1) := by decide +kernel
theorem dX7_where_26 : decode cX7_where 26 = .ok (.invokevirtual 152, 3) := by decide +kernel
theorem dX7_where_29 : decode cX7_where 29 = .ok (.invokestatic 122, 3) := by decide +kernel
theorem dX7_where_32 : decode cX7_where 32 = .ok (.ireturn, 1) := by decide +kernel
theorem dX7_isHook_0 : decode cX7_isHook 0 = .ok (.iload_n 0, 1) := by decide +kernel
theorem dX7_isHook_1 : decode cX7_isHook 1 = .ok (.ifCond .lt 13, 3) := by decide +kernel
theorem dX7_isHook_4 : decode cX7_isHook 4 = .ok (.iload_n 0, 1) := by decide +kernel
theorem dX7_isHook_5 : decode cX7_isHook 5 = .ok (.bipush 8, 2) := by decide +kernel
theorem dX7_isHook_7 : decode cX7_isHook 7 = .ok (.if_icmp .ge 7, 3) := by decide +kernel
theorem dX7_isHook_10 : decode cX7_isHook 10 = .ok (.iconst 1, 1) := by decide +kernel
theorem dX7_isHook_11 : decode cX7_isHook 11 = .ok (.goto 4, 3) := by decide +kernel
theorem dX7_isHook_14 : decode cX7_isHook 14 = .ok (.iconst 0, 1) := by decide +kernel
theorem dX7_isHook_15 : decode cX7_isHook 15 = .ok (.ireturn, 1) := by decide +kernel
theorem dX7_isName_0 : decode cX7_isName 0 = .ok (.iload_n 0, 1) := by decide +kernel
theorem dX7_isName_1 : decode cX7_isName 1 = .ok (.ifCond .lt 12, 3) := by decide +kernel
theorem dX7_isName_4 : decode cX7_isName 4 = .ok (.iload_n 0, 1) := by decide +kernel
theorem dX7_isName_5 : decode cX7_isName 5 = .ok (.iconst 2, 1) := by decide +kernel
theorem dX7_isName_6 : decode cX7_isName 6 = .ok (.if_icmp .ge 7, 3) := by decide +kernel
theorem dX7_isName_9 : decode cX7_isName 9 = .ok (.iconst 1, 1) := by decide +kernel
theorem dX7_isName_10 : decode cX7_isName 10 = .ok (.goto 4, 3) := by decide +kernel
theorem dX7_isName_13 : decode cX7_isName 13 = .ok (.iconst 0, 1) := by decide +kernel
theorem dX7_isName_14 : decode cX7_isName 14 = .ok (.ireturn, 1) := by decide +kernel
theorem dX7_orNone_0 : decode cX7_orNone 0 = .ok (.iload_n 0, 1) := by decide +kernel
theorem dX7_orNone_1 : decode cX7_orNone 1 = .ok (.sipush 300, 3) := by decide +kernel
theorem dX7_orNone_4 : decode cX7_orNone 4 = .ok (.if_icmp .ne 8, 3) := by decide +kernel
theorem dX7_orNone_7 : decode cX7_orNone 7 = .ok (.bipush (-9), 2) := by decide +kernel
theorem dX7_orNone_9 : decode cX7_orNone 9 = .ok (.goto 4, 3) := by decide +kernel
theorem dX7_orNone_12 : decode cX7_orNone 12 = .ok (.iload_n 0, 1) := by decide +kernel
theorem dX7_orNone_13 : decode cX7_orNone 13 = .ok (.ireturn, 1) := by decide +kernel
set_option maxRecDepth 20000 in
theorem ggX7_recorded_X2_keepDraft : GoodIn wsX7_recorded wsX2_keepDraft := goodIn_r _ [6, 7, 8, 9, 10, 11, 12, 19, 20, 21] (by decide +kernel) (by decide +kernel)
set_option maxRecDepth 20000 in
theorem gX7_recorded_X2_keepDraft : GoodIn wsX7_recorded (wsV RX7 186 RX2 yX2_keepDraft wsX2_keepDraft) := goodIn_app (goodIn_of _ (by decide +kernel)) ggX7_recorded_X2_keepDraft
theorem dX7_recorded_0 : decode cX7_recorded 0 = .ok (.iload_n 1, 1) := by decide +kernel
theorem dX7_recorded_1 : decode cX7_recorded 1 = .ok (.ifCond .lt 10, 3) := by decide +kernel
theorem dX7_recorded_4 : decode cX7_recorded 4 = .ok (.aload_n 0, 1) := by decide +kernel
theorem dX7_recorded_5 : decode cX7_recorded 5 = .ok (.getfield 22, 3) := by decide +kernel
theorem dX7_recorded_8 : decode cX7_recorded 8 = .ok (.invokevirtual 186, 3) := by decide +kernel
theorem dX7_recorded_11 : decode cX7_recorded 11 = .ok (.iload_n 1, 1) := by decide +kernel
theorem dX7_recorded_12 : decode cX7_recorded 12 = .ok (.ireturn, 1) := by decide +kernel
theorem dJ9_floorMod_7cf53_0 : decode cJ9_floorMod_7cf53 0 = .ok (.iload_n 0, 1) := by decide +kernel
theorem dJ9_floorMod_7cf53_1 : decode cJ9_floorMod_7cf53 1 = .ok (.iload_n 1, 1) := by decide +kernel
theorem dJ9_floorMod_7cf53_2 : decode cJ9_floorMod_7cf53 2 = .ok (.irem, 1) := by decide +kernel
theorem dJ9_floorMod_7cf53_3 : decode cJ9_floorMod_7cf53 3 = .ok (.istore_n 2, 1) := by decide +kernel
theorem dJ9_floorMod_7cf53_4 : decode cJ9_floorMod_7cf53 4 = .ok (.iload_n 0, 1) := by decide +kernel
theorem dJ9_floorMod_7cf53_5 : decode cJ9_floorMod_7cf53 5 = .ok (.iload_n 1, 1) := by decide +kernel
theorem dJ9_floorMod_7cf53_6 : decode cJ9_floorMod_7cf53 6 = .ok (.ixor, 1) := by decide +kernel
theorem dJ9_floorMod_7cf53_7 : decode cJ9_floorMod_7cf53 7 = .ok (.ifCond .ge 11, 3) := by decide +kernel
theorem dJ9_floorMod_7cf53_10 : decode cJ9_floorMod_7cf53 10 = .ok (.iload_n 2, 1) := by decide +kernel
theorem dJ9_floorMod_7cf53_11 : decode cJ9_floorMod_7cf53 11 = .ok (.ifCond .eq 7, 3) := by decide +kernel
theorem dJ9_floorMod_7cf53_14 : decode cJ9_floorMod_7cf53 14 = .ok (.iload_n 2, 1) := by decide +kernel
theorem dJ9_floorMod_7cf53_15 : decode cJ9_floorMod_7cf53 15 = .ok (.iload_n 1, 1) := by decide +kernel
theorem dJ9_floorMod_7cf53_16 : decode cJ9_floorMod_7cf53 16 = .ok (.iadd, 1) := by decide +kernel
theorem dJ9_floorMod_7cf53_17 : decode cJ9_floorMod_7cf53 17 = .ok (.ireturn, 1) := by decide +kernel
theorem dJ9_floorMod_7cf53_18 : decode cJ9_floorMod_7cf53 18 = .ok (.iload_n 2, 1) := by decide +kernel
theorem dJ9_floorMod_7cf53_19 : decode cJ9_floorMod_7cf53 19 = .ok (.ireturn, 1) := by decide +kernel
theorem dJ7_fill_53178_0 : decode cJ7_fill_53178 0 = .ok (.iconst 0, 1) := by decide +kernel
theorem dJ7_fill_53178_1 : decode cJ7_fill_53178 1 = .ok (.istore_n 2, 1) := by decide +kernel
theorem dJ7_fill_53178_2 : decode cJ7_fill_53178 2 = .ok (.aload_n 0, 1) := by decide +kernel
theorem dJ7_fill_53178_3 : decode cJ7_fill_53178 3 = .ok (.arraylength, 1) := by decide +kernel
theorem dJ7_fill_53178_4 : decode cJ7_fill_53178 4 = .ok (.istore_n 3, 1) := by decide +kernel
theorem dJ7_fill_53178_5 : decode cJ7_fill_53178 5 = .ok (.iload_n 2, 1) := by decide +kernel
theorem dJ7_fill_53178_6 : decode cJ7_fill_53178 6 = .ok (.iload_n 3, 1) := by decide +kernel
theorem dJ7_fill_53178_7 : decode cJ7_fill_53178 7 = .ok (.if_icmp .ge 13, 3) := by decide +kernel
theorem dJ7_fill_53178_10 : decode cJ7_fill_53178 10 = .ok (.aload_n 0, 1) := by decide +kernel
theorem dJ7_fill_53178_11 : decode cJ7_fill_53178 11 = .ok (.iload_n 2, 1) := by decide +kernel
theorem dJ7_fill_53178_12 : decode cJ7_fill_53178 12 = .ok (.iload_n 1, 1) := by decide +kernel
theorem dJ7_fill_53178_13 : decode cJ7_fill_53178 13 = .ok (.iastore, 1) := by decide +kernel
theorem dJ7_fill_53178_14 : decode cJ7_fill_53178 14 = .ok (.iinc 2 1, 3) := by decide +kernel
theorem dJ7_fill_53178_17 : decode cJ7_fill_53178 17 = .ok (.goto (-12), 3) := by decide +kernel
theorem dJ7_fill_53178_20 : decode cJ7_fill_53178 20 = .ok (.return_, 1) := by decide +kernel
theorem dL_cell_0 : decode cL_cell 0 = .ok (.iload_n 1, 1) := by decide +kernel
theorem dL_cell_1 : decode cL_cell 1 = .ok (.aload_n 0, 1) := by decide +kernel
theorem dL_cell_2 : decode cL_cell 2 = .ok (.arraylength, 1) := by decide +kernel
theorem dL_cell_3 : decode cL_cell 3 = .ok (.if_icmp .ge 9, 3) := by decide +kernel
theorem dL_cell_6 : decode cL_cell 6 = .ok (.aload_n 0, 1) := by decide +kernel
theorem dL_cell_7 : decode cL_cell 7 = .ok (.iload_n 1, 1) := by decide +kernel
theorem dL_cell_8 : decode cL_cell 8 = .ok (.iaload, 1) := by decide +kernel
theorem dL_cell_9 : decode cL_cell 9 = .ok (.goto 9, 3) := by decide +kernel
theorem dL_cell_12 : decode cL_cell 12 = .ok (.ldc 7, 2) := by decide +kernel
theorem dL_cell_14 : decode cL_cell 14 = .ok (.iload_n 1, 1) := by decide +kernel
theorem dL_cell_15 : decode cL_cell 15 = .ok (.iconst 3, 1) := by decide +kernel
theorem dL_cell_16 : decode cL_cell 16 = .ok (.iadd, 1) := by decide +kernel
theorem dL_cell_17 : decode cL_cell 17 = .ok (.imul, 1) := by decide +kernel
theorem dL_cell_18 : decode cL_cell 18 = .ok (.ireturn, 1) := by decide +kernel
theorem dL_low_0 : decode cL_low 0 = .ok (.iload_n 0, 1) := by decide +kernel
theorem dL_low_1 : decode cL_low 1 = .ok (.ldc 8, 2) := by decide +kernel
theorem dL_low_3 : decode cL_low 3 = .ok (.iand, 1) := by decide +kernel
theorem dL_low_4 : decode cL_low 4 = .ok (.iload_n 1, 1) := by decide +kernel
theorem dL_low_5 : decode cL_low 5 = .ok (.irem, 1) := by decide +kernel
theorem dL_low_6 : decode cL_low 6 = .ok (.ireturn, 1) := by decide +kernel
theorem dL_at_0 : decode cL_at 0 = .ok (.iload_n 3, 1) := by decide +kernel
theorem dL_at_1 : decode cL_at 1 = .ok (.bipush 100, 2) := by decide +kernel
theorem dL_at_3 : decode cL_at 3 = .ok (.if_icmp .ge 9, 3) := by decide +kernel
theorem dL_at_6 : decode cL_at 6 = .ok (.aload_n 0, 1) := by decide +kernel
theorem dL_at_7 : decode cL_at 7 = .ok (.iload_n 3, 1) := by decide +kernel
theorem dL_at_8 : decode cL_at 8 = .ok (.laload, 1) := by decide +kernel
theorem dL_at_9 : decode cL_at 9 = .ok (.goto 26, 3) := by decide +kernel
theorem dL_at_12 : decode cL_at 12 = .ok (.iload_n 3, 1) := by decide +kernel
theorem dL_at_13 : decode cL_at 13 = .ok (.sipush 200, 3) := by decide +kernel
theorem dL_at_16 : decode cL_at 16 = .ok (.if_icmp .ge 12, 3) := by decide +kernel
theorem dL_at_19 : decode cL_at 19 = .ok (.aload_n 1, 1) := by decide +kernel
theorem dL_at_20 : decode cL_at 20 = .ok (.iload_n 3, 1) := by decide +kernel
theorem dL_at_21 : decode cL_at 21 = .ok (.bipush 100, 2) := by decide +kernel
theorem dL_at_23 : decode cL_at 23 = .ok (.isub, 1) := by decide +kernel
theorem dL_at_24 : decode cL_at 24 = .ok (.laload, 1) := by decide +kernel
theorem dL_at_25 : decode cL_at 25 = .ok (.goto 10, 3) := by decide +kernel
theorem dL_at_28 : decode cL_at 28 = .ok (.aload_n 2, 1) := by decide +kernel
theorem dL_at_29 : decode cL_at 29 = .ok (.iload_n 3, 1) := by decide +kernel
theorem dL_at_30 : decode cL_at 30 = .ok (.sipush 200, 3) := by decide +kernel
theorem dL_at_33 : decode cL_at 33 = .ok (.isub, 1) := by decide +kernel
theorem dL_at_34 : decode cL_at 34 = .ok (.laload, 1) := by decide +kernel
theorem dL_at_35 : decode cL_at 35 = .ok (.lreturn, 1) := by decide +kernel
theorem dL_puts_0 : decode cL_puts 0 = .ok (.iload_n 3, 1) := by decide +kernel
theorem dL_puts_1 : decode cL_puts 1 = .ok (.bipush 100, 2) := by decide +kernel
theorem dL_puts_3 : decode cL_puts 3 = .ok (.if_icmp .ge 11, 3) := by decide +kernel
theorem dL_puts_6 : decode cL_puts 6 = .ok (.aload_n 0, 1) := by decide +kernel
theorem dL_puts_7 : decode cL_puts 7 = .ok (.iload_n 3, 1) := by decide +kernel
theorem dL_puts_8 : decode cL_puts 8 = .ok (.lload 4, 2) := by decide +kernel
theorem dL_puts_10 : decode cL_puts 10 = .ok (.lastore, 1) := by decide +kernel
theorem dL_puts_11 : decode cL_puts 11 = .ok (.goto 30, 3) := by decide +kernel
theorem dL_puts_14 : decode cL_puts 14 = .ok (.iload_n 3, 1) := by decide +kernel
theorem dL_puts_15 : decode cL_puts 15 = .ok (.sipush 200, 3) := by decide +kernel
theorem dL_puts_18 : decode cL_puts 18 = .ok (.if_icmp .ge 14, 3) := by decide +kernel
theorem dL_puts_21 : decode cL_puts 21 = .ok (.aload_n 1, 1) := by decide +kernel
theorem dL_puts_22 : decode cL_puts 22 = .ok (.iload_n 3, 1) := by decide +kernel
theorem dL_puts_23 : decode cL_puts 23 = .ok (.bipush 100, 2) := by decide +kernel
theorem dL_puts_25 : decode cL_puts 25 = .ok (.isub, 1) := by decide +kernel
theorem dL_puts_26 : decode cL_puts 26 = .ok (.lload 4, 2) := by decide +kernel
theorem dL_puts_28 : decode cL_puts 28 = .ok (.lastore, 1) := by decide +kernel
theorem dL_puts_29 : decode cL_puts 29 = .ok (.goto 12, 3) := by decide +kernel
theorem dL_puts_32 : decode cL_puts 32 = .ok (.aload_n 2, 1) := by decide +kernel
theorem dL_puts_33 : decode cL_puts 33 = .ok (.iload_n 3, 1) := by decide +kernel
theorem dL_puts_34 : decode cL_puts 34 = .ok (.sipush 200, 3) := by decide +kernel
theorem dL_puts_37 : decode cL_puts 37 = .ok (.isub, 1) := by decide +kernel
theorem dL_puts_38 : decode cL_puts 38 = .ok (.lload 4, 2) := by decide +kernel
theorem dL_puts_40 : decode cL_puts 40 = .ok (.lastore, 1) := by decide +kernel
theorem dL_puts_41 : decode cL_puts 41 = .ok (.return_, 1) := by decide +kernel
theorem dL_pack_0 : decode cL_pack 0 = .ok (.iload_n 0, 1) := by decide +kernel
theorem dL_pack_1 : decode cL_pack 1 = .ok (.i2l, 1) := by decide +kernel
theorem dL_pack_2 : decode cL_pack 2 = .ok (.lconst 1, 1) := by decide +kernel
theorem dL_pack_3 : decode cL_pack 3 = .ok (.ladd, 1) := by decide +kernel
theorem dL_pack_4 : decode cL_pack 4 = .ok (.iload_n 1, 1) := by decide +kernel
theorem dL_pack_5 : decode cL_pack 5 = .ok (.i2l, 1) := by decide +kernel
theorem dL_pack_6 : decode cL_pack 6 = .ok (.ldc2_w 9, 3) := by decide +kernel
theorem dL_pack_9 : decode cL_pack 9 = .ok (.ladd, 1) := by decide +kernel
theorem dL_pack_10 : decode cL_pack 10 = .ok (.bipush 6, 2) := by decide +kernel
theorem dL_pack_12 : decode cL_pack 12 = .ok (.lshl, 1) := by decide +kernel
theorem dL_pack_13 : decode cL_pack 13 = .ok (.lor, 1) := by decide +kernel
theorem dL_pack_14 : decode cL_pack 14 = .ok (.iload_n 2, 1) := by decide +kernel
theorem dL_pack_15 : decode cL_pack 15 = .ok (.i2l, 1) := by decide +kernel
theorem dL_pack_16 : decode cL_pack 16 = .ok (.ldc2_w 9, 3) := by decide +kernel
theorem dL_pack_19 : decode cL_pack 19 = .ok (.ladd, 1) := by decide +kernel
theorem dL_pack_20 : decode cL_pack 20 = .ok (.bipush 15, 2) := by decide +kernel
theorem dL_pack_22 : decode cL_pack 22 = .ok (.lshl, 1) := by decide +kernel
theorem dL_pack_23 : decode cL_pack 23 = .ok (.lor, 1) := by decide +kernel
theorem dL_pack_24 : decode cL_pack 24 = .ok (.iload_n 3, 1) := by decide +kernel
theorem dL_pack_25 : decode cL_pack 25 = .ok (.i2l, 1) := by decide +kernel
theorem dL_pack_26 : decode cL_pack 26 = .ok (.ldc2_w 9, 3) := by decide +kernel
theorem dL_pack_29 : decode cL_pack 29 = .ok (.ladd, 1) := by decide +kernel
theorem dL_pack_30 : decode cL_pack 30 = .ok (.bipush 24, 2) := by decide +kernel
theorem dL_pack_32 : decode cL_pack 32 = .ok (.lshl, 1) := by decide +kernel
theorem dL_pack_33 : decode cL_pack 33 = .ok (.lor, 1) := by decide +kernel
theorem dL_pack_34 : decode cL_pack 34 = .ok (.iload 4, 2) := by decide +kernel
theorem dL_pack_36 : decode cL_pack 36 = .ok (.i2l, 1) := by decide +kernel
theorem dL_pack_37 : decode cL_pack 37 = .ok (.bipush 33, 2) := by decide +kernel
theorem dL_pack_39 : decode cL_pack 39 = .ok (.lshl, 1) := by decide +kernel
theorem dL_pack_40 : decode cL_pack 40 = .ok (.lor, 1) := by decide +kernel
theorem dL_pack_41 : decode cL_pack 41 = .ok (.lreturn, 1) := by decide +kernel
theorem dL_thing_0 : decode cL_thing 0 = .ok (.lload_n 0, 1) := by decide +kernel
theorem dL_thing_1 : decode cL_thing 1 = .ok (.ldc2_w 11, 3) := by decide +kernel
theorem dL_thing_4 : decode cL_thing 4 = .ok (.land, 1) := by decide +kernel
theorem dL_thing_5 : decode cL_thing 5 = .ok (.l2i, 1) := by decide +kernel
theorem dL_thing_6 : decode cL_thing 6 = .ok (.iconst 1, 1) := by decide +kernel
theorem dL_thing_7 : decode cL_thing 7 = .ok (.isub, 1) := by decide +kernel
theorem dL_thing_8 : decode cL_thing 8 = .ok (.ireturn, 1) := by decide +kernel
theorem dL_name_0 : decode cL_name 0 = .ok (.lload_n 0, 1) := by decide +kernel
theorem dL_name_1 : decode cL_name 1 = .ok (.bipush 6, 2) := by decide +kernel
theorem dL_name_3 : decode cL_name 3 = .ok (.bipush 9, 2) := by decide +kernel
theorem dL_name_5 : decode cL_name 5 = .ok (.iload_n 2, 1) := by decide +kernel
theorem dL_name_6 : decode cL_name 6 = .ok (.imul, 1) := by decide +kernel
theorem dL_name_7 : decode cL_name 7 = .ok (.iadd, 1) := by decide +kernel
theorem dL_name_8 : decode cL_name 8 = .ok (.lshr, 1) := by decide +kernel
theorem dL_name_9 : decode cL_name 9 = .ok (.ldc2_w 13, 3) := by decide +kernel
theorem dL_name_12 : decode cL_name 12 = .ok (.land, 1) := by decide +kernel
theorem dL_name_13 : decode cL_name 13 = .ok (.l2i, 1) := by decide +kernel
theorem dL_name_14 : decode cL_name 14 = .ok (.bipush 9, 2) := by decide +kernel
theorem dL_name_16 : decode cL_name 16 = .ok (.isub, 1) := by decide +kernel
theorem dL_name_17 : decode cL_name 17 = .ok (.ireturn, 1) := by decide +kernel
theorem dL_mark_0 : decode cL_mark 0 = .ok (.lload_n 0, 1) := by decide +kernel
theorem dL_mark_1 : decode cL_mark 1 = .ok (.bipush 33, 2) := by decide +kernel
theorem dL_mark_3 : decode cL_mark 3 = .ok (.lshr, 1) := by decide +kernel
theorem dL_mark_4 : decode cL_mark 4 = .ok (.lconst 1, 1) := by decide +kernel
theorem dL_mark_5 : decode cL_mark 5 = .ok (.land, 1) := by decide +kernel
theorem dL_mark_6 : decode cL_mark 6 = .ok (.l2i, 1) := by decide +kernel
theorem dL_mark_7 : decode cL_mark 7 = .ok (.ireturn, 1) := by decide +kernel
set_option maxRecDepth 20000 in
theorem ggL_kept_L_name : GoodIn wsL_kept wsL_name := goodIn_r _ [4, 5] (by decide +kernel) (by decide +kernel)
set_option maxRecDepth 20000 in
theorem gL_kept_L_name : GoodIn wsL_kept (va_wsS RL 15 yL_name wsL_name) := goodIn_app (goodIn_of _ (by decide +kernel)) ggL_kept_L_name
set_option maxRecDepth 20000 in
theorem ggL_kept_L_thing : GoodIn wsL_kept wsL_thing := goodIn_r _ [8, 9] (by decide +kernel) (by decide +kernel)
set_option maxRecDepth 20000 in
theorem gL_kept_L_thing : GoodIn wsL_kept (va_wsS RL 21 yL_thing wsL_thing) := goodIn_app (goodIn_of _ (by decide +kernel)) ggL_kept_L_thing
theorem dL_kept_0 : decode cL_kept 0 = .ok (.iconst 0, 1) := by decide +kernel
theorem dL_kept_1 : decode cL_kept 1 = .ok (.istore 4, 2) := by decide +kernel
theorem dL_kept_3 : decode cL_kept 3 = .ok (.iconst 0, 1) := by decide +kernel
theorem dL_kept_4 : decode cL_kept 4 = .ok (.istore 5, 2) := by decide +kernel
theorem dL_kept_6 : decode cL_kept 6 = .ok (.iload 5, 2) := by decide +kernel
theorem dL_kept_8 : decode cL_kept 8 = .ok (.bipush 64, 2) := by decide +kernel
theorem dL_kept_10 : decode cL_kept 10 = .ok (.if_icmp .ge 68, 3) := by decide +kernel
theorem dL_kept_13 : decode cL_kept 13 = .ok (.aload_n 0, 1) := by decide +kernel
theorem dL_kept_14 : decode cL_kept 14 = .ok (.iconst 2, 1) := by decide +kernel
theorem dL_kept_15 : decode cL_kept 15 = .ok (.iaload, 1) := by decide +kernel
theorem dL_kept_16 : decode cL_kept 16 = .ok (.iconst 1, 1) := by decide +kernel
theorem dL_kept_17 : decode cL_kept 17 = .ok (.if_icmp .ne 61, 3) := by decide +kernel
theorem dL_kept_20 : decode cL_kept 20 = .ok (.aload_n 0, 1) := by decide +kernel
theorem dL_kept_21 : decode cL_kept 21 = .ok (.iconst 3, 1) := by decide +kernel
theorem dL_kept_22 : decode cL_kept 22 = .ok (.iaload, 1) := by decide +kernel
theorem dL_kept_23 : decode cL_kept 23 = .ok (.iconst 1, 1) := by decide +kernel
theorem dL_kept_24 : decode cL_kept 24 = .ok (.if_icmp .ne 10, 3) := by decide +kernel
theorem dL_kept_27 : decode cL_kept 27 = .ok (.aload_n 2, 1) := by decide +kernel
theorem dL_kept_28 : decode cL_kept 28 = .ok (.iload 5, 2) := by decide +kernel
theorem dL_kept_30 : decode cL_kept 30 = .ok (.laload, 1) := by decide +kernel
theorem dL_kept_31 : decode cL_kept 31 = .ok (.goto 7, 3) := by decide +kernel
theorem dL_kept_34 : decode cL_kept 34 = .ok (.aload_n 3, 1) := by decide +kernel
theorem dL_kept_35 : decode cL_kept 35 = .ok (.iload 5, 2) := by decide +kernel
theorem dL_kept_37 : decode cL_kept 37 = .ok (.laload, 1) := by decide +kernel
theorem dL_kept_38 : decode cL_kept 38 = .ok (.lstore 6, 2) := by decide +kernel
theorem dL_kept_40 : decode cL_kept 40 = .ok (.iload 4, 2) := by decide +kernel
theorem dL_kept_42 : decode cL_kept 42 = .ok (.lload 6, 2) := by decide +kernel
theorem dL_kept_44 : decode cL_kept 44 = .ok (.lconst 0, 1) := by decide +kernel
theorem dL_kept_45 : decode cL_kept 45 = .ok (.lcmp, 1) := by decide +kernel
theorem dL_kept_46 : decode cL_kept 46 = .ok (.ifCond .eq 22, 3) := by decide +kernel
theorem dL_kept_49 : decode cL_kept 49 = .ok (.lload 6, 2) := by decide +kernel
theorem dL_kept_51 : decode cL_kept 51 = .ok (.iconst 2, 1) := by decide +kernel
theorem dL_kept_52 : decode cL_kept 52 = .ok (.invokestatic 15, 3) := by decide +kernel
theorem dL_kept_55 : decode cL_kept 55 = .ok (.ifCond .ge 13, 3) := by decide +kernel
theorem dL_kept_58 : decode cL_kept 58 = .ok (.aload_n 1, 1) := by decide +kernel
theorem dL_kept_59 : decode cL_kept 59 = .ok (.lload 6, 2) := by decide +kernel
theorem dL_kept_61 : decode cL_kept 61 = .ok (.invokestatic 21, 3) := by decide +kernel
theorem dL_kept_64 : decode cL_kept 64 = .ok (.iaload, 1) := by decide +kernel
theorem dL_kept_65 : decode cL_kept 65 = .ok (.goto 4, 3) := by decide +kernel
theorem dL_kept_68 : decode cL_kept 68 = .ok (.iconst 0, 1) := by decide +kernel
theorem dL_kept_69 : decode cL_kept 69 = .ok (.iadd, 1) := by decide +kernel
theorem dL_kept_70 : decode cL_kept 70 = .ok (.istore 4, 2) := by decide +kernel
theorem dL_kept_72 : decode cL_kept 72 = .ok (.iinc 5 1, 3) := by decide +kernel
theorem dL_kept_75 : decode cL_kept 75 = .ok (.goto (-69), 3) := by decide +kernel
theorem dL_kept_78 : decode cL_kept 78 = .ok (.iload 4, 2) := by decide +kernel
theorem dL_kept_80 : decode cL_kept 80 = .ok (.ireturn, 1) := by decide +kernel
set_option maxRecDepth 20000 in
theorem ggL_lays_L_pack : GoodIn wsL_lays wsL_pack := goodIn_r _ [4, 5] (by decide +kernel) (by decide +kernel)
set_option maxRecDepth 20000 in
theorem gL_lays_L_pack : GoodIn wsL_lays (va_wsS RL 25 yL_pack wsL_pack) := goodIn_app (goodIn_of _ (by decide +kernel)) ggL_lays_L_pack
set_option maxRecDepth 20000 in
theorem ggL_lays_L_puts : GoodIn wsL_lays wsL_puts := goodIn_r _ [8] (by decide +kernel) (by decide +kernel)
set_option maxRecDepth 20000 in
theorem gL_lays_L_puts : GoodIn wsL_lays (va_wsS RL 29 yL_puts wsL_puts) := goodIn_app (goodIn_of _ (by decide +kernel)) ggL_lays_L_puts
theorem dL_lays_0 : decode cL_lays 0 = .ok (.bipush 100, 2) := by decide +kernel
theorem dL_lays_2 : decode cL_lays 2 = .ok (.aload_n 0, 1) := by decide +kernel
theorem dL_lays_3 : decode cL_lays 3 = .ok (.iconst 3, 1) := by decide +kernel
theorem dL_lays_4 : decode cL_lays 4 = .ok (.iaload, 1) := by decide +kernel
theorem dL_lays_5 : decode cL_lays 5 = .ok (.imul, 1) := by decide +kernel
theorem dL_lays_6 : decode cL_lays 6 = .ok (.aload_n 0, 1) := by decide +kernel
theorem dL_lays_7 : decode cL_lays 7 = .ok (.iconst 4, 1) := by decide +kernel
theorem dL_lays_8 : decode cL_lays 8 = .ok (.aload_n 0, 1) := by decide +kernel
theorem dL_lays_9 : decode cL_lays 9 = .ok (.iconst 3, 1) := by decide +kernel
theorem dL_lays_10 : decode cL_lays 10 = .ok (.iaload, 1) := by decide +kernel
theorem dL_lays_11 : decode cL_lays 11 = .ok (.iadd, 1) := by decide +kernel
theorem dL_lays_12 : decode cL_lays 12 = .ok (.iaload, 1) := by decide +kernel
theorem dL_lays_13 : decode cL_lays 13 = .ok (.iadd, 1) := by decide +kernel
theorem dL_lays_14 : decode cL_lays 14 = .ok (.istore 8, 2) := by decide +kernel
theorem dL_lays_16 : decode cL_lays 16 = .ok (.aload_n 2, 1) := by decide +kernel
theorem dL_lays_17 : decode cL_lays 17 = .ok (.aload_n 3, 1) := by decide +kernel
theorem dL_lays_18 : decode cL_lays 18 = .ok (.aload 4, 2) := by decide +kernel
theorem dL_lays_20 : decode cL_lays 20 = .ok (.iload 8, 2) := by decide +kernel
theorem dL_lays_22 : decode cL_lays 22 = .ok (.iload 5, 2) := by decide +kernel
theorem dL_lays_24 : decode cL_lays 24 = .ok (.iload 6, 2) := by decide +kernel
theorem dL_lays_26 : decode cL_lays 26 = .ok (.iload 7, 2) := by decide +kernel
theorem dL_lays_28 : decode cL_lays 28 = .ok (.bipush (-9), 2) := by decide +kernel
theorem dL_lays_30 : decode cL_lays 30 = .ok (.iconst 0, 1) := by decide +kernel
theorem dL_lays_31 : decode cL_lays 31 = .ok (.invokestatic 25, 3) := by decide +kernel
theorem dL_lays_34 : decode cL_lays 34 = .ok (.invokestatic 29, 3) := by decide +kernel
theorem dL_lays_37 : decode cL_lays 37 = .ok (.aload_n 0, 1) := by decide +kernel
theorem dL_lays_38 : decode cL_lays 38 = .ok (.iconst 4, 1) := by decide +kernel
theorem dL_lays_39 : decode cL_lays 39 = .ok (.aload_n 0, 1) := by decide +kernel
theorem dL_lays_40 : decode cL_lays 40 = .ok (.iconst 3, 1) := by decide +kernel
theorem dL_lays_41 : decode cL_lays 41 = .ok (.iaload, 1) := by decide +kernel
theorem dL_lays_42 : decode cL_lays 42 = .ok (.iadd, 1) := by decide +kernel
theorem dL_lays_43 : decode cL_lays 43 = .ok (.dup2, 1) := by decide +kernel
theorem dL_lays_44 : decode cL_lays 44 = .ok (.iaload, 1) := by decide +kernel
theorem dL_lays_45 : decode cL_lays 45 = .ok (.aload_n 1, 1) := by decide +kernel
theorem dL_lays_46 : decode cL_lays 46 = .ok (.iload 5, 2) := by decide +kernel
theorem dL_lays_48 : decode cL_lays 48 = .ok (.iaload, 1) := by decide +kernel
theorem dL_lays_49 : decode cL_lays 49 = .ok (.iadd, 1) := by decide +kernel
theorem dL_lays_50 : decode cL_lays 50 = .ok (.iastore, 1) := by decide +kernel
theorem dL_lays_51 : decode cL_lays 51 = .ok (.iload 8, 2) := by decide +kernel
theorem dL_lays_53 : decode cL_lays 53 = .ok (.ireturn, 1) := by decide +kernel
set_option maxRecDepth 20000 in
theorem ggL_read_L_at : GoodIn wsL_read wsL_at := goodIn_r _ [5] (by decide +kernel) (by decide +kernel)
set_option maxRecDepth 20000 in
theorem gL_read_L_at : GoodIn wsL_read (va_wsS RL 33 yL_at wsL_at) := goodIn_app (goodIn_of _ (by decide +kernel)) ggL_read_L_at
set_option maxRecDepth 20000 in
theorem ggL_read_L_mark : GoodIn wsL_read wsL_mark := goodIn_r _ [8] (by decide +kernel) (by decide +kernel)
set_option maxRecDepth 20000 in
theorem gL_read_L_mark : GoodIn wsL_read (va_wsS RL 37 yL_mark wsL_mark) := goodIn_app (goodIn_of _ (by decide +kernel)) ggL_read_L_mark
set_option maxRecDepth 20000 in
theorem ggL_read_L_puts : GoodIn wsL_read wsL_puts := goodIn_r _ [11] (by decide +kernel) (by decide +kernel)
set_option maxRecDepth 20000 in
theorem gL_read_L_puts : GoodIn wsL_read (va_wsS RL 29 yL_puts wsL_puts) := goodIn_app (goodIn_of _ (by decide +kernel)) ggL_read_L_puts
set_option maxRecDepth 20000 in
theorem ggL_read_L_name : GoodIn wsL_read wsL_name := goodIn_r _ [14, 15] (by decide +kernel) (by decide +kernel)
set_option maxRecDepth 20000 in
theorem gL_read_L_name : GoodIn wsL_read (va_wsS RL 15 yL_name wsL_name) := goodIn_app (goodIn_of _ (by decide +kernel)) ggL_read_L_name
set_option maxRecDepth 20000 in
theorem ggL_read_L_thing : GoodIn wsL_read wsL_thing := goodIn_r _ [18, 19] (by decide +kernel) (by decide +kernel)
set_option maxRecDepth 20000 in
theorem gL_read_L_thing : GoodIn wsL_read (va_wsS RL 21 yL_thing wsL_thing) := goodIn_app (goodIn_of _ (by decide +kernel)) ggL_read_L_thing
set_option maxRecDepth 20000 in
theorem ggL_read_L_lays : GoodIn wsL_read wsL_lays := goodIn_r _ [22, 23, 24, 4, 25, 26, 9, 10, 11] (by decide +kernel) (by decide +kernel)
set_option maxRecDepth 20000 in
theorem gL_read_L_lays : GoodIn wsL_read (va_wsS RL 42 yL_lays wsL_lays) := goodIn_app (goodIn_of _ (by decide +kernel)) ggL_read_L_lays
set_option maxRecDepth 20000 in
theorem ggL_read_L_pack : GoodIn wsL_read wsL_pack := goodIn_r _ [25, 26] (by decide +kernel) (by decide +kernel)
set_option maxRecDepth 20000 in
theorem gL_read_L_pack : GoodIn wsL_read (va_wsS RL 25 yL_pack wsL_pack) := goodIn_app (goodIn_of _ (by decide +kernel)) ggL_read_L_pack
theorem dL_read_0 : decode cL_read 0 = .ok (.iload 6, 2) := by decide +kernel
theorem dL_read_2 : decode cL_read 2 = .ok (.ifCond .lt 20, 3) := by decide +kernel
theorem dL_read_5 : decode cL_read 5 = .ok (.aload_n 0, 1) := by decide +kernel
theorem dL_read_6 : decode cL_read 6 = .ok (.iconst 2, 1) := by decide +kernel
theorem dL_read_7 : decode cL_read 7 = .ok (.iaload, 1) := by decide +kernel
theorem dL_read_8 : decode cL_read 8 = .ok (.ifCond .eq 14, 3) := by decide +kernel
theorem dL_read_11 : decode cL_read 11 = .ok (.iload 6, 2) := by decide +kernel
theorem dL_read_13 : decode cL_read 13 = .ok (.bipush 100, 2) := by decide +kernel
theorem dL_read_15 : decode cL_read 15 = .ok (.idiv, 1) := by decide +kernel
theorem dL_read_16 : decode cL_read 16 = .ok (.aload_n 0, 1) := by decide +kernel
theorem dL_read_17 : decode cL_read 17 = .ok (.iconst 3, 1) := by decide +kernel
theorem dL_read_18 : decode cL_read 18 = .ok (.iaload, 1) := by decide +kernel
theorem dL_read_19 : decode cL_read 19 = .ok (.if_icmp .ne 6, 3) := by decide +kernel
theorem dL_read_22 : decode cL_read 22 = .ok (.iload 6, 2) := by decide +kernel
theorem dL_read_24 : decode cL_read 24 = .ok (.ireturn, 1) := by decide +kernel
theorem dL_read_25 : decode cL_read 25 = .ok (.aload_n 3, 1) := by decide +kernel
theorem dL_read_26 : decode cL_read 26 = .ok (.aload 4, 2) := by decide +kernel
theorem dL_read_28 : decode cL_read 28 = .ok (.aload 5, 2) := by decide +kernel
theorem dL_read_30 : decode cL_read 30 = .ok (.iload 6, 2) := by decide +kernel
theorem dL_read_32 : decode cL_read 32 = .ok (.invokestatic 33, 3) := by decide +kernel
theorem dL_read_35 : decode cL_read 35 = .ok (.lstore 7, 2) := by decide +kernel
theorem dL_read_37 : decode cL_read 37 = .ok (.iload 6, 2) := by decide +kernel
theorem dL_read_39 : decode cL_read 39 = .ok (.sipush 200, 3) := by decide +kernel
theorem dL_read_42 : decode cL_read 42 = .ok (.if_icmp .lt 46, 3) := by decide +kernel
theorem dL_read_45 : decode cL_read 45 = .ok (.lload 7, 2) := by decide +kernel
theorem dL_read_47 : decode cL_read 47 = .ok (.invokestatic 37, 3) := by decide +kernel
theorem dL_read_50 : decode cL_read 50 = .ok (.ifCond .ne 35, 3) := by decide +kernel
theorem dL_read_53 : decode cL_read 53 = .ok (.aload_n 3, 1) := by decide +kernel
theorem dL_read_54 : decode cL_read 54 = .ok (.aload 4, 2) := by decide +kernel
theorem dL_read_56 : decode cL_read 56 = .ok (.aload 5, 2) := by decide +kernel
theorem dL_read_58 : decode cL_read 58 = .ok (.iload 6, 2) := by decide +kernel
theorem dL_read_60 : decode cL_read 60 = .ok (.lload 7, 2) := by decide +kernel
theorem dL_read_62 : decode cL_read 62 = .ok (.ldc2_w 40, 3) := by decide +kernel
theorem dL_read_65 : decode cL_read 65 = .ok (.lor, 1) := by decide +kernel
theorem dL_read_66 : decode cL_read 66 = .ok (.invokestatic 29, 3) := by decide +kernel
theorem dL_read_69 : decode cL_read 69 = .ok (.aload_n 2, 1) := by decide +kernel
theorem dL_read_70 : decode cL_read 70 = .ok (.aload_n 0, 1) := by decide +kernel
theorem dL_read_71 : decode cL_read 71 = .ok (.bipush 8, 2) := by decide +kernel
theorem dL_read_73 : decode cL_read 73 = .ok (.iaload, 1) := by decide +kernel
theorem dL_read_74 : decode cL_read 74 = .ok (.iload 6, 2) := by decide +kernel
theorem dL_read_76 : decode cL_read 76 = .ok (.iastore, 1) := by decide +kernel
theorem dL_read_77 : decode cL_read 77 = .ok (.aload_n 0, 1) := by decide +kernel
theorem dL_read_78 : decode cL_read 78 = .ok (.bipush 8, 2) := by decide +kernel
theorem dL_read_80 : decode cL_read 80 = .ok (.dup2, 1) := by decide +kernel
theorem dL_read_81 : decode cL_read 81 = .ok (.iaload, 1) := by decide +kernel
theorem dL_read_82 : decode cL_read 82 = .ok (.iconst 1, 1) := by decide +kernel
theorem dL_read_83 : decode cL_read 83 = .ok (.iadd, 1) := by decide +kernel
theorem dL_read_84 : decode cL_read 84 = .ok (.iastore, 1) := by decide +kernel
