set_option maxRecDepth 20000 in
theorem gX1_readNumber_X6_hasDigitAt : GoodIn wsX1_readNumber (wsV RX1 36 RX6 yX6_hasDigitAt wsX6_hasDigitAt) := goodIn_app (goodIn_of _ (by decide +kernel)) ggX1_readNumber_X6_hasDigitAt
theorem dX1_readNumber_0 : decode cX1_readNumber 0 = .ok (.aload_n 1, 1) := by decide +kernel
theorem dX1_readNumber_1 : decode cX1_readNumber 1 = .ok (.aload_n 0, 1) := by decide +kernel
theorem dX1_readNumber_2 : decode cX1_readNumber 2 = .ok (.getfield 15, 3) := by decide +kernel
theorem dX1_readNumber_5 : decode cX1_readNumber 5 = .ok (.invokevirtual 19, 3) := by decide +kernel
theorem dX1_readNumber_8 : decode cX1_readNumber 8 = .ok (.bipush 48, 2) := by decide +kernel
theorem dX1_readNumber_10 : decode cX1_readNumber 10 = .ok (.isub, 1) := by decide +kernel
theorem dX1_readNumber_11 : decode cX1_readNumber 11 = .ok (.istore_n 2, 1) := by decide +kernel
theorem dX1_readNumber_12 : decode cX1_readNumber 12 = .ok (.aload_n 0, 1) := by decide +kernel
theorem dX1_readNumber_13 : decode cX1_readNumber 13 = .ok (.dup, 1) := by decide +kernel
theorem dX1_readNumber_14 : decode cX1_readNumber 14 = .ok (.getfield 15, 3) := by decide +kernel
theorem dX1_readNumber_17 : decode cX1_readNumber 17 = .ok (.iconst 1, 1) := by decide +kernel
theorem dX1_readNumber_18 : decode cX1_readNumber 18 = .ok (.iadd, 1) := by decide +kernel
theorem dX1_readNumber_19 : decode cX1_readNumber 19 = .ok (.putfield 15, 3) := by decide +kernel
theorem dX1_readNumber_22 : decode cX1_readNumber 22 = .ok (.iload_n 2, 1) := by decide +kernel
theorem dX1_readNumber_23 : decode cX1_readNumber 23 = .ok (.ifCond .le 41, 3) := by decide +kernel
theorem dX1_readNumber_26 : decode cX1_readNumber 26 = .ok (.aload_n 1, 1) := by decide +kernel
theorem dX1_readNumber_27 : decode cX1_readNumber 27 = .ok (.aload_n 0, 1) := by decide +kernel
theorem dX1_readNumber_28 : decode cX1_readNumber 28 = .ok (.getfield 15, 3) := by decide +kernel
theorem dX1_readNumber_31 : decode cX1_readNumber 31 = .ok (.invokevirtual 36, 3) := by decide +kernel
theorem dX1_readNumber_34 : decode cX1_readNumber 34 = .ok (.ifCond .eq 30, 3) := by decide +kernel
theorem dX1_readNumber_37 : decode cX1_readNumber 37 = .ok (.iload_n 2, 1) := by decide +kernel
theorem dX1_readNumber_38 : decode cX1_readNumber 38 = .ok (.bipush 10, 2) := by decide +kernel
theorem dX1_readNumber_40 : decode cX1_readNumber 40 = .ok (.imul, 1) := by decide +kernel
theorem dX1_readNumber_41 : decode cX1_readNumber 41 = .ok (.aload_n 1, 1) := by decide +kernel
theorem dX1_readNumber_42 : decode cX1_readNumber 42 = .ok (.aload_n 0, 1) := by decide +kernel
theorem dX1_readNumber_43 : decode cX1_readNumber 43 = .ok (.getfield 15, 3) := by decide +kernel
theorem dX1_readNumber_46 : decode cX1_readNumber 46 = .ok (.invokevirtual 19, 3) := by decide +kernel
theorem dX1_readNumber_49 : decode cX1_readNumber 49 = .ok (.iadd, 1) := by decide +kernel
theorem dX1_readNumber_50 : decode cX1_readNumber 50 = .ok (.bipush 48, 2) := by decide +kernel
theorem dX1_readNumber_52 : decode cX1_readNumber 52 = .ok (.isub, 1) := by decide +kernel
theorem dX1_readNumber_53 : decode cX1_readNumber 53 = .ok (.istore_n 2, 1) := by decide +kernel
theorem dX1_readNumber_54 : decode cX1_readNumber 54 = .ok (.aload_n 0, 1) := by decide +kernel
theorem dX1_readNumber_55 : decode cX1_readNumber 55 = .ok (.dup, 1) := by decide +kernel
theorem dX1_readNumber_56 : decode cX1_readNumber 56 = .ok (.getfield 15, 3) := by decide +kernel
theorem dX1_readNumber_59 : decode cX1_readNumber 59 = .ok (.iconst 1, 1) := by decide +kernel
theorem dX1_readNumber_60 : decode cX1_readNumber 60 = .ok (.iadd, 1) := by decide +kernel
theorem dX1_readNumber_61 : decode cX1_readNumber 61 = .ok (.putfield 15, 3) := by decide +kernel
theorem dX1_readNumber_64 : decode cX1_readNumber 64 = .ok (.iload_n 2, 1) := by decide +kernel
theorem dX1_readNumber_65 : decode cX1_readNumber 65 = .ok (.ireturn, 1) := by decide +kernel
set_option maxRecDepth 20000 in
theorem ggX1_callOn_X5_makeThing : GoodIn wsX1_callOn wsX5_makeThing := goodIn_r _ [7, 8, 9, 10, 11, 12, 13, 14, 15, 16, 17, 18, 19, 20, 21, 22, 23, 24, 25, 26, 27, 28, 29, 30, 31, 32, 33, 6, 34, 35, 36, 37, 38, 39, 40, 41, 42, 43, 44, 45, 46, 47, 48, 49, 50, 51, 52, 53, 54, 55, 56, 57, 58, 59, 60, 61, 62, 63, 64, 152, 153, 154, 155, 156, 157, 158, 159, 160, 161, 162, 163, 164, 165, 166] (by decide +kernel) (by decide +kernel)
set_option maxRecDepth 20000 in
theorem gX1_callOn_X5_makeThing : GoodIn wsX1_callOn (wsV RX1 44 RX5 yX5_makeThing wsX5_makeThing) := goodIn_app (goodIn_of _ (by decide +kernel)) ggX1_callOn_X5_makeThing
set_option maxRecDepth 20000 in
theorem ggX1_callOn_X5_linkHooks : GoodIn wsX1_callOn wsX5_linkHooks := goodIn_r _ [68, 13, 9, 14, 15, 16, 69, 70, 71, 72, 73, 6, 74, 12, 75, 76, 77, 78, 79, 35, 44, 45, 46, 47, 48, 49, 50, 20, 51, 52, 27, 28, 29, 30, 26, 53, 23, 24, 25, 80, 81, 82, 83, 11, 36, 37, 38, 39, 84, 85, 86, 87, 58, 59, 60, 88, 89, 90, 91, 92, 93, 94, 61, 62, 63, 64, 95, 96, 97, 98, 152, 153, 154, 155, 156, 157, 158, 159, 160, 161, 162, 163, 164, 165, 166, 167, 168, 169] (by decide +kernel) (by decide +kernel)
set_option maxRecDepth 20000 in
theorem gX1_callOn_X5_linkHooks : GoodIn wsX1_callOn (wsV RX1 50 RX5 yX5_linkHooks wsX5_linkHooks) := goodIn_app (goodIn_of _ (by decide +kernel)) ggX1_callOn_X5_linkHooks
set_option maxRecDepth 20000 in
theorem ggX1_callOn_X5_followName : GoodIn wsX1_callOn wsX5_followName := goodIn_r _ [102, 13, 9, 14, 15, 16, 69, 70, 71, 72, 73, 6, 74, 12, 75, 76, 77, 78, 79, 35, 44, 45, 46, 47, 48, 49, 50, 20, 51, 52, 27, 28, 29, 30, 26, 53, 23, 24, 25, 80, 81, 82, 83, 11, 36, 37, 38, 39, 84, 85, 86, 87, 58, 59, 60, 88, 89, 90, 91, 92, 93, 94, 61, 62, 63, 64, 152, 153, 154, 155, 156, 157, 158, 159, 160, 161, 162, 163, 164, 165, 166, 167, 168, 169] (by decide +kernel) (by decide +kernel)
set_option maxRecDepth 20000 in
theorem gX1_callOn_X5_followName : GoodIn wsX1_callOn (wsV RX1 54 RX5 yX5_followName wsX5_followName) := goodIn_app (goodIn_of _ (by decide +kernel)) ggX1_callOn_X5_followName
set_option maxRecDepth 20000 in
theorem ggX1_callOn_X5_dropHook : GoodIn wsX1_callOn wsX5_dropHook := goodIn_r _ [106, 13, 14, 15, 16, 152, 153, 154, 155, 156, 157, 158, 159, 160, 161] (by decide +kernel) (by decide +kernel)
set_option maxRecDepth 20000 in
theorem gX1_callOn_X5_dropHook : GoodIn wsX1_callOn (wsV RX1 57 RX5 yX5_dropHook wsX5_dropHook) := goodIn_app (goodIn_of _ (by decide +kernel)) ggX1_callOn_X5_dropHook
set_option maxRecDepth 20000 in
theorem ggX1_callOn_X5_beginMove : GoodIn wsX1_callOn wsX5_beginMove := goodIn_r _ [110, 12, 35, 11, 75, 13, 111, 112, 113, 91, 114, 115, 93, 71, 72, 73, 6, 74, 9, 76, 77, 78, 79, 44, 45, 46, 47, 48, 49, 50, 20, 51, 52, 27, 28, 29, 30, 26, 53, 23, 24, 25, 80, 81, 82, 83, 36, 37, 38, 39, 84, 85, 86, 87, 58, 59, 60, 88, 89, 90, 92, 94, 61, 62, 63, 64, 116, 117, 118, 119, 120, 121, 122, 123, 124, 125, 126, 127, 128, 129, 130, 131, 132, 133, 134, 135, 136, 152, 153, 154, 155, 156, 157, 158, 159, 160, 161, 167, 168, 169, 162, 163, 164, 165, 166] (by decide +kernel) (by decide +kernel)
set_option maxRecDepth 20000 in
theorem gX1_callOn_X5_beginMove : GoodIn wsX1_callOn (wsV RX1 60 RX5 yX5_beginMove wsX5_beginMove) := goodIn_app (goodIn_of _ (by decide +kernel)) ggX1_callOn_X5_beginMove
set_option maxRecDepth 20000 in
theorem ggX1_callOn_X5_carrySteps : GoodIn wsX1_callOn wsX5_carrySteps := goodIn_r _ [140, 12, 141, 142, 143, 6, 144, 75, 9, 145, 146, 147, 91, 148, 115, 93, 94, 71, 72, 73, 74, 76, 77, 78, 79, 35, 44, 45, 46, 47, 48, 49, 50, 20, 51, 52, 27, 28, 29, 30, 26, 53, 23, 24, 25, 80, 81, 82, 83, 11, 36, 37, 38, 39, 84, 85, 86, 87, 58, 59, 60, 88, 89, 90, 92, 61, 62, 63, 64, 116, 117, 118, 119, 120, 121, 122, 123, 124, 125, 126, 127, 128, 129, 130, 131, 132, 133, 134, 135, 136, 152, 153, 154, 155, 156, 157, 158, 159, 160, 161, 162, 163, 164, 165, 166, 167, 168, 169] (by decide +kernel) (by decide +kernel)
set_option maxRecDepth 20000 in
theorem gX1_callOn_X5_carrySteps : GoodIn wsX1_callOn (wsV RX1 63 RX5 yX5_carrySteps wsX5_carrySteps) := goodIn_app (goodIn_of _ (by decide +kernel)) ggX1_callOn_X5_carrySteps
theorem dX1_callOn_0 : decode cX1_callOn 0 = .ok (.aload_n 0, 1) := by decide +kernel
theorem dX1_callOn_1 : decode cX1_callOn 1 = .ok (.getfield 25, 3) := by decide +kernel
theorem dX1_callOn_4 : decode cX1_callOn 4 = .ok (.tableswitch 178 98 115 #[162, 178, 151, 178, 128, 178, 178, 178, 178, 178, 105, 88, 178, 178, 178, 178, 178, 167], 88) := by decide +kernel
theorem dX1_callOn_92 : decode cX1_callOn 92 = .ok (.aload_n 1, 1) := by decide +kernel
theorem dX1_callOn_93 : decode cX1_callOn 93 = .ok (.aload_n 0, 1) := by decide +kernel
theorem dX1_callOn_94 : decode cX1_callOn 94 = .ok (.getfield 9, 3) := by decide +kernel
theorem dX1_callOn_97 : decode cX1_callOn 97 = .ok (.iconst 0, 1) := by decide +kernel
theorem dX1_callOn_98 : decode cX1_callOn 98 = .ok (.iaload, 1) := by decide +kernel
theorem dX1_callOn_99 : decode cX1_callOn 99 = .ok (.aload_n 0, 1) := by decide +kernel
theorem dX1_callOn_100 : decode cX1_callOn 100 = .ok (.getfield 9, 3) := by decide +kernel
theorem dX1_callOn_103 : decode cX1_callOn 103 = .ok (.iconst 1, 1) := by decide +kernel
theorem dX1_callOn_104 : decode cX1_callOn 104 = .ok (.iaload, 1) := by decide +kernel
theorem dX1_callOn_105 : decode cX1_callOn 105 = .ok (.invokevirtual 44, 3) := by decide +kernel
theorem dX1_callOn_108 : decode cX1_callOn 108 = .ok (.ireturn, 1) := by decide +kernel
theorem dX1_callOn_109 : decode cX1_callOn 109 = .ok (.aload_n 1, 1) := by decide +kernel
theorem dX1_callOn_110 : decode cX1_callOn 110 = .ok (.aload_n 0, 1) := by decide +kernel
theorem dX1_callOn_111 : decode cX1_callOn 111 = .ok (.getfield 9, 3) := by decide +kernel
theorem dX1_callOn_114 : decode cX1_callOn 114 = .ok (.iconst 0, 1) := by decide +kernel
theorem dX1_callOn_115 : decode cX1_callOn 115 = .ok (.iaload, 1) := by decide +kernel
theorem dX1_callOn_116 : decode cX1_callOn 116 = .ok (.aload_n 0, 1) := by decide +kernel
theorem dX1_callOn_117 : decode cX1_callOn 117 = .ok (.getfield 9, 3) := by decide +kernel
theorem dX1_callOn_120 : decode cX1_callOn 120 = .ok (.iconst 1, 1) := by decide +kernel
theorem dX1_callOn_121 : decode cX1_callOn 121 = .ok (.iaload, 1) := by decide +kernel
theorem dX1_callOn_122 : decode cX1_callOn 122 = .ok (.aload_n 0, 1) := by decide +kernel
theorem dX1_callOn_123 : decode cX1_callOn 123 = .ok (.getfield 9, 3) := by decide +kernel
theorem dX1_callOn_126 : decode cX1_callOn 126 = .ok (.iconst 2, 1) := by decide +kernel
theorem dX1_callOn_127 : decode cX1_callOn 127 = .ok (.iaload, 1) := by decide +kernel
theorem dX1_callOn_128 : decode cX1_callOn 128 = .ok (.invokevirtual 50, 3) := by decide +kernel
theorem dX1_callOn_131 : decode cX1_callOn 131 = .ok (.ireturn, 1) := by decide +kernel
theorem dX1_callOn_132 : decode cX1_callOn 132 = .ok (.aload_n 1, 1) := by decide +kernel
theorem dX1_callOn_133 : decode cX1_callOn 133 = .ok (.aload_n 0, 1) := by decide +kernel
theorem dX1_callOn_134 : decode cX1_callOn 134 = .ok (.getfield 9, 3) := by decide +kernel
theorem dX1_callOn_137 : decode cX1_callOn 137 = .ok (.iconst 0, 1) := by decide +kernel
theorem dX1_callOn_138 : decode cX1_callOn 138 = .ok (.iaload, 1) := by decide +kernel
theorem dX1_callOn_139 : decode cX1_callOn 139 = .ok (.aload_n 0, 1) := by decide +kernel
theorem dX1_callOn_140 : decode cX1_callOn 140 = .ok (.getfield 9, 3) := by decide +kernel
theorem dX1_callOn_143 : decode cX1_callOn 143 = .ok (.iconst 1, 1) := by decide +kernel
theorem dX1_callOn_144 : decode cX1_callOn 144 = .ok (.iaload, 1) := by decide +kernel
theorem dX1_callOn_145 : decode cX1_callOn 145 = .ok (.aload_n 0, 1) := by decide +kernel
theorem dX1_callOn_146 : decode cX1_callOn 146 = .ok (.getfield 9, 3) := by decide +kernel
theorem dX1_callOn_149 : decode cX1_callOn 149 = .ok (.iconst 2, 1) := by decide +kernel
theorem dX1_callOn_150 : decode cX1_callOn 150 = .ok (.iaload, 1) := by decide +kernel
theorem dX1_callOn_151 : decode cX1_callOn 151 = .ok (.invokevirtual 54, 3) := by decide +kernel
theorem dX1_callOn_154 : decode cX1_callOn 154 = .ok (.ireturn, 1) := by decide +kernel
theorem dX1_callOn_155 : decode cX1_callOn 155 = .ok (.aload_n 1, 1) := by decide +kernel
theorem dX1_callOn_156 : decode cX1_callOn 156 = .ok (.aload_n 0, 1) := by decide +kernel
theorem dX1_callOn_157 : decode cX1_callOn 157 = .ok (.getfield 9, 3) := by decide +kernel
theorem dX1_callOn_160 : decode cX1_callOn 160 = .ok (.iconst 0, 1) := by decide +kernel
theorem dX1_callOn_161 : decode cX1_callOn 161 = .ok (.iaload, 1) := by decide +kernel
theorem dX1_callOn_162 : decode cX1_callOn 162 = .ok (.invokevirtual 57, 3) := by decide +kernel
theorem dX1_callOn_165 : decode cX1_callOn 165 = .ok (.ireturn, 1) := by decide +kernel
theorem dX1_callOn_166 : decode cX1_callOn 166 = .ok (.aload_n 1, 1) := by decide +kernel
theorem dX1_callOn_167 : decode cX1_callOn 167 = .ok (.invokevirtual 60, 3) := by decide +kernel
theorem dX1_callOn_170 : decode cX1_callOn 170 = .ok (.ireturn, 1) := by decide +kernel
theorem dX1_callOn_171 : decode cX1_callOn 171 = .ok (.aload_n 1, 1) := by decide +kernel
theorem dX1_callOn_172 : decode cX1_callOn 172 = .ok (.aload_n 0, 1) := by decide +kernel
theorem dX1_callOn_173 : decode cX1_callOn 173 = .ok (.getfield 9, 3) := by decide +kernel
theorem dX1_callOn_176 : decode cX1_callOn 176 = .ok (.iconst 0, 1) := by decide +kernel
theorem dX1_callOn_177 : decode cX1_callOn 177 = .ok (.iaload, 1) := by decide +kernel
theorem dX1_callOn_178 : decode cX1_callOn 178 = .ok (.invokevirtual 63, 3) := by decide +kernel
theorem dX1_callOn_181 : decode cX1_callOn 181 = .ok (.ireturn, 1) := by decide +kernel
theorem dX1_callOn_182 : decode cX1_callOn 182 = .ok (.iconst (-1), 1) := by decide +kernel
theorem dX1_callOn_183 : decode cX1_callOn 183 = .ok (.ireturn, 1) := by decide +kernel
set_option maxRecDepth 20000 in
theorem ggX2_init_X5_init : GoodIn wsX2_init wsX5_init := goodIn_r _ [10, 11, 2, 3, 12, 13, 14, 15, 16, 17, 18, 19, 20, 21, 22, 23, 24, 25, 26, 27, 28, 29, 30, 31, 32, 33, 34, 35, 36, 37, 38, 39, 40, 44, 45, 46, 47, 48, 49, 50, 51, 52, 53, 54, 55, 56, 57, 58, 59, 60, 61] (by decide +kernel) (by decide +kernel)
set_option maxRecDepth 20000 in
theorem gX2_init_X5_init : GoodIn wsX2_init (wsX5_init) := ggX2_init_X5_init
theorem dX2_init_0 : decode cX2_init 0 = .ok (.aload_n 0, 1) := by decide +kernel
theorem dX2_init_1 : decode cX2_init 1 = .ok (.invokespecial 3, 3) := by decide +kernel
theorem dX2_init_4 : decode cX2_init 4 = .ok (.aload_n 0, 1) := by decide +kernel
theorem dX2_init_5 : decode cX2_init 5 = .ok (.bipush 6, 2) := by decide +kernel
theorem dX2_init_7 : decode cX2_init 7 = .ok (.anewarray 9, 3) := by decide +kernel
theorem dX2_init_10 : decode cX2_init 10 = .ok (.putfield 11, 3) := by decide +kernel
theorem dX2_init_13 : decode cX2_init 13 = .ok (.iconst 0, 1) := by decide +kernel
theorem dX2_init_14 : decode cX2_init 14 = .ok (.istore_n 1, 1) := by decide +kernel
theorem dX2_init_15 : decode cX2_init 15 = .ok (.iload_n 1, 1) := by decide +kernel
theorem dX2_init_16 : decode cX2_init 16 = .ok (.bipush 6, 2) := by decide +kernel
theorem dX2_init_18 : decode cX2_init 18 = .ok (.if_icmp .ge 22, 3) := by decide +kernel
theorem dX2_init_21 : decode cX2_init 21 = .ok (.aload_n 0, 1) := by decide +kernel
theorem dX2_init_22 : decode cX2_init 22 = .ok (.getfield 11, 3) := by decide +kernel
theorem dX2_init_25 : decode cX2_init 25 = .ok (.iload_n 1, 1) := by decide +kernel
theorem dX2_init_26 : decode cX2_init 26 = .ok (.new 9, 3) := by decide +kernel
theorem dX2_init_29 : decode cX2_init 29 = .ok (.dup, 1) := by decide +kernel
theorem dX2_init_30 : decode cX2_init 30 = .ok (.invokespecial 17, 3) := by decide +kernel
theorem dX2_init_33 : decode cX2_init 33 = .ok (.aastore, 1) := by decide +kernel
theorem dX2_init_34 : decode cX2_init 34 = .ok (.iinc 1 1, 3) := by decide +kernel
theorem dX2_init_37 : decode cX2_init 37 = .ok (.goto (-22), 3) := by decide +kernel
theorem dX2_init_40 : decode cX2_init 40 = .ok (.return_, 1) := by decide +kernel
theorem dX2_size_0 : decode cX2_size 0 = .ok (.aload_n 0, 1) := by decide +kernel
theorem dX2_size_1 : decode cX2_size 1 = .ok (.getfield 18, 3) := by decide +kernel
theorem dX2_size_4 : decode cX2_size 4 = .ok (.ireturn, 1) := by decide +kernel
set_option maxRecDepth 20000 in
theorem ggX2_slotOfDraft_J9_floorMod_7cf53 : GoodIn wsX2_slotOfDraft wsJ9_floorMod_7cf53 := goodIn_r _ [6] (by decide +kernel) (by decide +kernel)
set_option maxRecDepth 20000 in
theorem gX2_slotOfDraft_J9_floorMod_7cf53 : GoodIn wsX2_slotOfDraft (va_wsS RX2 25 yJ9_floorMod_7cf53 wsJ9_floorMod_7cf53) := goodIn_app (goodIn_of _ (by decide +kernel)) ggX2_slotOfDraft_J9_floorMod_7cf53
theorem dX2_slotOfDraft_0 : decode cX2_slotOfDraft 0 = .ok (.aload_n 0, 1) := by decide +kernel
theorem dX2_slotOfDraft_1 : decode cX2_slotOfDraft 1 = .ok (.getfield 22, 3) := by decide +kernel
theorem dX2_slotOfDraft_4 : decode cX2_slotOfDraft 4 = .ok (.aload_n 0, 1) := by decide +kernel
theorem dX2_slotOfDraft_5 : decode cX2_slotOfDraft 5 = .ok (.getfield 18, 3) := by decide +kernel
theorem dX2_slotOfDraft_8 : decode cX2_slotOfDraft 8 = .ok (.iadd, 1) := by decide +kernel
theorem dX2_slotOfDraft_9 : decode cX2_slotOfDraft 9 = .ok (.bipush 6, 2) := by decide +kernel
theorem dX2_slotOfDraft_11 : decode cX2_slotOfDraft 11 = .ok (.invokestatic 25, 3) := by decide +kernel
theorem dX2_slotOfDraft_14 : decode cX2_slotOfDraft 14 = .ok (.ireturn, 1) := by decide +kernel
set_option maxRecDepth 20000 in
theorem ggX2_draft_X2_slotOfDraft : GoodIn wsX2_draft wsX2_slotOfDraft := goodIn_r _ [6, 7, 8, 9, 10, 11, 12, 52, 53, 54] (by decide +kernel) (by decide +kernel)
set_option maxRecDepth 20000 in
theorem gX2_draft_X2_slotOfDraft : GoodIn wsX2_draft (wsV RX2 31 RX2 yX2_slotOfDraft wsX2_slotOfDraft) := goodIn_app (goodIn_of _ (by decide +kernel)) ggX2_draft_X2_slotOfDraft
set_option maxRecDepth 20000 in
theorem ggX2_draft_X5_become : GoodIn wsX2_draft wsX5_become := goodIn_r _ [17, 18, 19, 20, 21, 22, 23, 24, 25, 26, 27, 28, 29, 30, 31, 32, 33, 34, 35, 36, 37, 38, 39, 40, 41, 42, 43, 44, 45, 46, 47, 48, 49, 50, 51, 55, 56, 57, 58, 59, 60, 61, 62, 63, 64, 65, 66, 67, 68, 69, 70, 71, 72] (by decide +kernel) (by decide +kernel)
set_option maxRecDepth 20000 in
theorem gX2_draft_X5_become : GoodIn wsX2_draft (wsV RX2 35 RX5 yX5_become wsX5_become) := goodIn_app (goodIn_of _ (by decide +kernel)) ggX2_draft_X5_become
theorem dX2_draft_0 : decode cX2_draft 0 = .ok (.aload_n 0, 1) := by decide +kernel
theorem dX2_draft_1 : decode cX2_draft 1 = .ok (.getfield 11, 3) := by decide +kernel
theorem dX2_draft_4 : decode cX2_draft 4 = .ok (.aload_n 0, 1) := by decide +kernel
theorem dX2_draft_5 : decode cX2_draft 5 = .ok (.invokevirtual 31, 3) := by decide +kernel
theorem dX2_draft_8 : decode cX2_draft 8 = .ok (.aaload, 1) := by decide +kernel
theorem dX2_draft_9 : decode cX2_draft 9 = .ok (.astore_n 2, 1) := by decide +kernel
theorem dX2_draft_10 : decode cX2_draft 10 = .ok (.aload_n 2, 1) := by decide +kernel
theorem dX2_draft_11 : decode cX2_draft 11 = .ok (.ifnull 8, 3) := by decide +kernel
theorem dX2_draft_14 : decode cX2_draft 14 = .ok (.aload_n 2, 1) := by decide +kernel
theorem dX2_draft_15 : decode cX2_draft 15 = .ok (.aload_n 1, 1) := by decide +kernel
theorem dX2_draft_16 : decode cX2_draft 16 = .ok (.invokevirtual 35, 3) := by decide +kernel
theorem dX2_draft_19 : decode cX2_draft 19 = .ok (.return_, 1) := by decide +kernel
set_option maxRecDepth 20000 in
theorem ggX2_keepDraft_J9_floorMod_7cf53 : GoodIn wsX2_keepDraft wsJ9_floorMod_7cf53 := goodIn_r _ [6] (by decide +kernel) (by decide +kernel)
set_option maxRecDepth 20000 in
theorem gX2_keepDraft_J9_floorMod_7cf53 : GoodIn wsX2_keepDraft (va_wsS RX2 25 yJ9_floorMod_7cf53 wsJ9_floorMod_7cf53) := goodIn_app (goodIn_of _ (by decide +kernel)) ggX2_keepDraft_J9_floorMod_7cf53
theorem dX2_keepDraft_0 : decode cX2_keepDraft 0 = .ok (.aload_n 0, 1) := by decide +kernel
theorem dX2_keepDraft_1 : decode cX2_keepDraft 1 = .ok (.getfield 18, 3) := by decide +kernel
theorem dX2_keepDraft_4 : decode cX2_keepDraft 4 = .ok (.iconst 5, 1) := by decide +kernel
theorem dX2_keepDraft_5 : decode cX2_keepDraft 5 = .ok (.if_icmp .ge 16, 3) := by decide +kernel
theorem dX2_keepDraft_8 : decode cX2_keepDraft 8 = .ok (.aload_n 0, 1) := by decide +kernel
theorem dX2_keepDraft_9 : decode cX2_keepDraft 9 = .ok (.dup, 1) := by decide +kernel
theorem dX2_keepDraft_10 : decode cX2_keepDraft 10 = .ok (.getfield 18, 3) := by decide +kernel
theorem dX2_keepDraft_13 : decode cX2_keepDraft 13 = .ok (.iconst 1, 1) := by decide +kernel
theorem dX2_keepDraft_14 : decode cX2_keepDraft 14 = .ok (.iadd, 1) := by decide +kernel
theorem dX2_keepDraft_15 : decode cX2_keepDraft 15 = .ok (.putfield 18, 3) := by decide +kernel
theorem dX2_keepDraft_18 : decode cX2_keepDraft 18 = .ok (.goto 18, 3) := by decide +kernel
theorem dX2_keepDraft_21 : decode cX2_keepDraft 21 = .ok (.aload_n 0, 1) := by decide +kernel
theorem dX2_keepDraft_22 : decode cX2_keepDraft 22 = .ok (.aload_n 0, 1) := by decide +kernel
theorem dX2_keepDraft_23 : decode cX2_keepDraft 23 = .ok (.getfield 22, 3) := by decide +kernel
theorem dX2_keepDraft_26 : decode cX2_keepDraft 26 = .ok (.iconst 1, 1) := by decide +kernel
theorem dX2_keepDraft_27 : decode cX2_keepDraft 27 = .ok (.iadd, 1) := by decide +kernel
theorem dX2_keepDraft_28 : decode cX2_keepDraft 28 = .ok (.bipush 6, 2) := by decide +kernel
theorem dX2_keepDraft_30 : decode cX2_keepDraft 30 = .ok (.invokestatic 25, 3) := by decide +kernel
theorem dX2_keepDraft_33 : decode cX2_keepDraft 33 = .ok (.putfield 22, 3) := by decide +kernel
theorem dX2_keepDraft_36 : decode cX2_keepDraft 36 = .ok (.return_, 1) := by decide +kernel
set_option maxRecDepth 20000 in
theorem ggX2_restoreDraft_X2_slotOfDraft : GoodIn wsX2_restoreDraft wsX2_slotOfDraft := goodIn_r _ [6, 7, 8, 9, 10, 11, 12, 52, 53, 54] (by decide +kernel) (by decide +kernel)
set_option maxRecDepth 20000 in
theorem gX2_restoreDraft_X2_slotOfDraft : GoodIn wsX2_restoreDraft (wsV RX2 31 RX2 yX2_slotOfDraft wsX2_slotOfDraft) := goodIn_app (goodIn_of _ (by decide +kernel)) ggX2_restoreDraft_X2_slotOfDraft
set_option maxRecDepth 20000 in
theorem ggX2_restoreDraft_X5_become : GoodIn wsX2_restoreDraft wsX5_become := goodIn_r _ [17, 18, 19, 20, 21, 22, 23, 24, 25, 26, 27, 28, 29, 30, 31, 32, 33, 34, 35, 36, 37, 38, 39, 40, 41, 42, 43, 44, 45, 46, 47, 48, 49, 50, 51, 55, 56, 57, 58, 59, 60, 61, 62, 63, 64, 65, 66, 67, 68, 69, 70, 71, 72] (by decide +kernel) (by decide +kernel)
set_option maxRecDepth 20000 in
theorem gX2_restoreDraft_X5_become : GoodIn wsX2_restoreDraft (wsV RX2 35 RX5 yX5_become wsX5_become) := goodIn_app (goodIn_of _ (by decide +kernel)) ggX2_restoreDraft_X5_become
theorem dX2_restoreDraft_0 : decode cX2_restoreDraft 0 = .ok (.aload_n 0, 1) := by decide +kernel
theorem dX2_restoreDraft_1 : decode cX2_restoreDraft 1 = .ok (.getfield 11, 3) := by decide +kernel
theorem dX2_restoreDraft_4 : decode cX2_restoreDraft 4 = .ok (.aload_n 0, 1) := by decide +kernel
theorem dX2_restoreDraft_5 : decode cX2_restoreDraft 5 = .ok (.invokevirtual 31, 3) := by decide +kernel
theorem dX2_restoreDraft_8 : decode cX2_restoreDraft 8 = .ok (.aaload, 1) := by decide +kernel
theorem dX2_restoreDraft_9 : decode cX2_restoreDraft 9 = .ok (.astore_n 2, 1) := by decide +kernel
theorem dX2_restoreDraft_10 : decode cX2_restoreDraft 10 = .ok (.aload_n 2, 1) := by decide +kernel
theorem dX2_restoreDraft_11 : decode cX2_restoreDraft 11 = .ok (.ifnull 8, 3) := by decide +kernel
theorem dX2_restoreDraft_14 : decode cX2_restoreDraft 14 = .ok (.aload_n 1, 1) := by decide +kernel
theorem dX2_restoreDraft_15 : decode cX2_restoreDraft 15 = .ok (.aload_n 2, 1) := by decide +kernel
theorem dX2_restoreDraft_16 : decode cX2_restoreDraft 16 = .ok (.invokevirtual 35, 3) := by decide +kernel
theorem dX2_restoreDraft_19 : decode cX2_restoreDraft 19 = .ok (.return_, 1) := by decide +kernel
set_option maxRecDepth 20000 in
theorem ggX2_restoreLatest_X2_restoreDraft : GoodIn wsX2_restoreLatest wsX2_restoreDraft := goodIn_r _ [6, 7, 8, 9, 10, 5, 11, 12, 1, 13, 14, 15, 16, 17, 18, 19, 20, 21, 22, 23, 24, 25, 26, 27, 28, 29, 30, 31, 32, 33, 34, 35, 36, 37, 38, 39, 40, 41, 42, 43, 44, 45, 46, 47, 48, 49, 50, 51, 52, 53, 54, 55, 56, 57, 58, 59, 60, 61, 62, 63, 64, 65, 66, 67, 68, 69, 70, 71, 72, 73, 74, 75, 76] (by decide +kernel) (by decide +kernel)
set_option maxRecDepth 20000 in
theorem gX2_restoreLatest_X2_restoreDraft : GoodIn wsX2_restoreLatest (wsV RX2 39 RX2 yX2_restoreDraft wsX2_restoreDraft) := goodIn_app (goodIn_of _ (by decide +kernel)) ggX2_restoreLatest_X2_restoreDraft
theorem dX2_restoreLatest_0 : decode cX2_restoreLatest 0 = .ok (.aload_n 0, 1) := by decide +kernel
theorem dX2_restoreLatest_1 : decode cX2_restoreLatest 1 = .ok (.getfield 18, 3) := by decide +kernel
theorem dX2_restoreLatest_4 : decode cX2_restoreLatest 4 = .ok (.ifCond .le 18, 3) := by decide +kernel
theorem dX2_restoreLatest_7 : decode cX2_restoreLatest 7 = .ok (.aload_n 0, 1) := by decide +kernel
theorem dX2_restoreLatest_8 : decode cX2_restoreLatest 8 = .ok (.dup, 1) := by decide +kernel
theorem dX2_restoreLatest_9 : decode cX2_restoreLatest 9 = .ok (.getfield 18, 3) := by decide +kernel
theorem dX2_restoreLatest_12 : decode cX2_restoreLatest 12 = .ok (.iconst 1, 1) := by decide +kernel
theorem dX2_restoreLatest_13 : decode cX2_restoreLatest 13 = .ok (.isub, 1) := by decide +kernel
theorem dX2_restoreLatest_14 : decode cX2_restoreLatest 14 = .ok (.putfield 18, 3) := by decide +kernel
theorem dX2_restoreLatest_17 : decode cX2_restoreLatest 17 = .ok (.aload_n 0, 1) := by decide +kernel
theorem dX2_restoreLatest_18 : decode cX2_restoreLatest 18 = .ok (.aload_n 1, 1) := by decide +kernel
theorem dX2_restoreLatest_19 : decode cX2_restoreLatest 19 = .ok (.invokevirtual 39, 3) := by decide +kernel
theorem dX2_restoreLatest_22 : decode cX2_restoreLatest 22 = .ok (.return_, 1) := by decide +kernel
theorem dX3_init_0 : decode cX3_init 0 = .ok (.aload_n 0, 1) := by decide +kernel
theorem dX3_init_1 : decode cX3_init 1 = .ok (.invokespecial 3, 3) := by decide +kernel
theorem dX3_init_4 : decode cX3_init 4 = .ok (.aload_n 0, 1) := by decide +kernel
theorem dX3_init_5 : decode cX3_init 5 = .ok (.bipush 124, 2) := by decide +kernel
theorem dX3_init_7 : decode cX3_init 7 = .ok (.newarray .int, 2) := by decide +kernel
theorem dX3_init_9 : decode cX3_init 9 = .ok (.putfield 9, 3) := by decide +kernel
theorem dX3_init_12 : decode cX3_init 12 = .ok (.return_, 1) := by decide +kernel
theorem dX3_become_0 : decode cX3_become 0 = .ok (.aload_n 1, 1) := by decide +kernel
theorem dX3_become_1 : decode cX3_become 1 = .ok (.getfield 9, 3) := by decide +kernel
theorem dX3_become_4 : decode cX3_become 4 = .ok (.iconst 0, 1) := by decide +kernel
theorem dX3_become_5 : decode cX3_become 5 = .ok (.aload_n 0, 1) := by decide +kernel
theorem dX3_become_6 : decode cX3_become 6 = .ok (.getfield 9, 3) := by decide +kernel
theorem dX3_become_9 : decode cX3_become 9 = .ok (.iconst 0, 1) := by decide +kernel
theorem dX3_become_10 : decode cX3_become 10 = .ok (.bipush 124, 2) := by decide +kernel
theorem dX3_become_12 : decode cX3_become 12 = .ok (.invokestatic 15, 3) := by decide +kernel
theorem dX3_become_15 : decode cX3_become 15 = .ok (.aload_n 0, 1) := by decide +kernel
theorem dX3_become_16 : decode cX3_become 16 = .ok (.aload_n 1, 1) := by decide +kernel
theorem dX3_become_17 : decode cX3_become 17 = .ok (.getfield 21, 3) := by decide +kernel
theorem dX3_become_20 : decode cX3_become 20 = .ok (.putfield 21, 3) := by decide +kernel
theorem dX3_become_23 : decode cX3_become 23 = .ok (.aload_n 0, 1) := by decide +kernel
theorem dX3_become_24 : decode cX3_become 24 = .ok (.aload_n 1, 1) := by decide +kernel
theorem dX3_become_25 : decode cX3_become 25 = .ok (.getfield 25, 3) := by decide +kernel
theorem dX3_become_28 : decode cX3_become 28 = .ok (.putfield 25, 3) := by decide +kernel
theorem dX3_become_31 : decode cX3_become 31 = .ok (.return_, 1) := by decide +kernel
theorem dX3_clear_0 : decode cX3_clear 0 = .ok (.aload_n 0, 1) := by decide +kernel
theorem dX3_clear_1 : decode cX3_clear 1 = .ok (.iconst 0, 1) := by decide +kernel
theorem dX3_clear_2 : decode cX3_clear 2 = .ok (.putfield 21, 3) := by decide +kernel
theorem dX3_clear_5 : decode cX3_clear 5 = .ok (.aload_n 0, 1) := by decide +kernel
theorem dX3_clear_6 : decode cX3_clear 6 = .ok (.iconst 0, 1) := by decide +kernel
theorem dX3_clear_7 : decode cX3_clear 7 = .ok (.putfield 25, 3) := by decide +kernel
theorem dX3_clear_10 : decode cX3_clear 10 = .ok (.return_, 1) := by decide +kernel
theorem dX3_size_0 : decode cX3_size 0 = .ok (.aload_n 0, 1) := by decide +kernel
theorem dX3_size_1 : decode cX3_size 1 = .ok (.getfield 25, 3) := by decide +kernel
theorem dX3_size_4 : decode cX3_size 4 = .ok (.aload_n 0, 1) := by decide +kernel
theorem dX3_size_5 : decode cX3_size 5 = .ok (.getfield 21, 3) := by decide +kernel
theorem dX3_size_8 : decode cX3_size 8 = .ok (.isub, 1) := by decide +kernel
theorem dX3_size_9 : decode cX3_size 9 = .ok (.ireturn, 1) := by decide +kernel
theorem dX3_join_0 : decode cX3_join 0 = .ok (.aload_n 0, 1) := by decide +kernel
theorem dX3_join_1 : decode cX3_join 1 = .ok (.getfield 25, 3) := by decide +kernel
theorem dX3_join_4 : decode cX3_join 4 = .ok (.ifCond .lt 32, 3) := by decide +kernel
theorem dX3_join_7 : decode cX3_join 7 = .ok (.aload_n 0, 1) := by decide +kernel
theorem dX3_join_8 : decode cX3_join 8 = .ok (.getfield 25, 3) := by decide +kernel
theorem dX3_join_11 : decode cX3_join 11 = .ok (.bipush 124, 2) := by decide +kernel
theorem dX3_join_13 : decode cX3_join 13 = .ok (.if_icmp .ge 23, 3) := by decide +kernel
theorem dX3_join_16 : decode cX3_join 16 = .ok (.aload_n 0, 1) := by decide +kernel
theorem dX3_join_17 : decode cX3_join 17 = .ok (.getfield 9, 3) := by decide +kernel
theorem dX3_join_20 : decode cX3_join 20 = .ok (.aload_n 0, 1) := by decide +kernel
theorem dX3_join_21 : decode cX3_join 21 = .ok (.getfield 25, 3) := by decide +kernel
theorem dX3_join_24 : decode cX3_join 24 = .ok (.iload_n 1, 1) := by decide +kernel
theorem dX3_join_25 : decode cX3_join 25 = .ok (.iastore, 1) := by decide +kernel
theorem dX3_join_26 : decode cX3_join 26 = .ok (.aload_n 0, 1) := by decide +kernel
theorem dX3_join_27 : decode cX3_join 27 = .ok (.dup, 1) := by decide +kernel
theorem dX3_join_28 : decode cX3_join 28 = .ok (.getfield 25, 3) := by decide +kernel
theorem dX3_join_31 : decode cX3_join 31 = .ok (.iconst 1, 1) := by decide +kernel
theorem dX3_join_32 : decode cX3_join 32 = .ok (.iadd, 1) := by decide +kernel
theorem dX3_join_33 : decode cX3_join 33 = .ok (.putfield 25, 3) := by decide +kernel
theorem dX3_join_36 : decode cX3_join 36 = .ok (.return_, 1) := by decide +kernel
theorem dX3_takeFirst_0 : decode cX3_takeFirst 0 = .ok (.aload_n 0, 1) := by decide +kernel
theorem dX3_takeFirst_1 : decode cX3_takeFirst 1 = .ok (.getfield 21, 3) := by decide +kernel
theorem dX3_takeFirst_4 : decode cX3_takeFirst 4 = .ok (.ifCond .lt 23, 3) := by decide +kernel
theorem dX3_takeFirst_7 : decode cX3_takeFirst 7 = .ok (.aload_n 0, 1) := by decide +kernel
theorem dX3_takeFirst_8 : decode cX3_takeFirst 8 = .ok (.getfield 21, 3) := by decide +kernel
theorem dX3_takeFirst_11 : decode cX3_takeFirst 11 = .ok (.aload_n 0, 1) := by decide +kernel
theorem dX3_takeFirst_12 : decode cX3_takeFirst 12 = .ok (.getfield 25, 3) := by decide +kernel
theorem dX3_takeFirst_15 : decode cX3_takeFirst 15 = .ok (.if_icmp .ge 12, 3) := by decide +kernel
theorem dX3_takeFirst_18 : decode cX3_takeFirst 18 = .ok (.aload_n 0, 1) := by decide +kernel
theorem dX3_takeFirst_19 : decode cX3_takeFirst 19 = .ok (.getfield 21, 3) := by decide +kernel
theorem dX3_takeFirst_22 : decode cX3_takeFirst 22 = .ok (.bipush 124, 2) := by decide +kernel
theorem dX3_takeFirst_24 : decode cX3_takeFirst 24 = .ok (.if_icmp .lt 7, 3) := by decide +kernel
theorem dX3_takeFirst_27 : decode cX3_takeFirst 27 = .ok (.sipush 300, 3) := by decide +kernel
theorem dX3_takeFirst_30 : decode cX3_takeFirst 30 = .ok (.ireturn, 1) := by decide +kernel
theorem dX3_takeFirst_31 : decode cX3_takeFirst 31 = .ok (.aload_n 0, 1) := by decide +kernel
theorem dX3_takeFirst_32 : decode cX3_takeFirst 32 = .ok (.dup, 1) := by decide +kernel
theorem dX3_takeFirst_33 : decode cX3_takeFirst 33 = .ok (.getfield 21, 3) := by decide +kernel
theorem dX3_takeFirst_36 : decode cX3_takeFirst 36 = .ok (.iconst 1, 1) := by decide +kernel
theorem dX3_takeFirst_37 : decode cX3_takeFirst 37 = .ok (.iadd, 1) := by decide +kernel
theorem dX3_takeFirst_38 : decode cX3_takeFirst 38 = .ok (.putfield 21, 3) := by decide +kernel
theorem dX3_takeFirst_41 : decode cX3_takeFirst 41 = .ok (.aload_n 0, 1) := by decide +kernel
theorem dX3_takeFirst_42 : decode cX3_takeFirst 42 = .ok (.getfield 9, 3) := by decide +kernel
theorem dX3_takeFirst_45 : decode cX3_takeFirst 45 = .ok (.aload_n 0, 1) := by decide +kernel
theorem dX3_takeFirst_46 : decode cX3_takeFirst 46 = .ok (.getfield 21, 3) := by decide +kernel
theorem dX3_takeFirst_49 : decode cX3_takeFirst 49 = .ok (.iconst 1, 1) := by decide +kernel
theorem dX3_takeFirst_50 : decode cX3_takeFirst 50 = .ok (.isub, 1) := by decide +kernel
theorem dX3_takeFirst_51 : decode cX3_takeFirst 51 = .ok (.iaload, 1) := by decide +kernel
theorem dX3_takeFirst_52 : decode cX3_takeFirst 52 = .ok (.ireturn, 1) := by decide +kernel
theorem dX4_init_0 : decode cX4_init 0 = .ok (.aload_n 0, 1) := by decide +kernel
theorem dX4_init_1 : decode cX4_init 1 = .ok (.invokespecial 3, 3) := by decide +kernel
theorem dX4_init_4 : decode cX4_init 4 = .ok (.aload_n 0, 1) := by decide +kernel
theorem dX4_init_5 : decode cX4_init 5 = .ok (.sipush 260, 3) := by decide +kernel
theorem dX4_init_8 : decode cX4_init 8 = .ok (.newarray .boolean, 2) := by decide +kernel
theorem dX4_init_10 : decode cX4_init 10 = .ok (.putfield 9, 3) := by decide +kernel
theorem dX4_init_13 : decode cX4_init 13 = .ok (.aload_n 0, 1) := by decide +kernel
theorem dX4_init_14 : decode cX4_init 14 = .ok (.sipush 260, 3) := by decide +kernel
theorem dX4_init_17 : decode cX4_init 17 = .ok (.newarray .int, 2) := by decide +kernel
theorem dX4_init_19 : decode cX4_init 19 = .ok (.putfield 15, 3) := by decide +kernel
theorem dX4_init_22 : decode cX4_init 22 = .ok (.aload_n 0, 1) := by decide +kernel
theorem dX4_init_23 : decode cX4_init 23 = .ok (.bipush 40, 2) := by decide +kernel
theorem dX4_init_25 : decode cX4_init 25 = .ok (.newarray .boolean, 2) := by decide +kernel
theorem dX4_init_27 : decode cX4_init 27 = .ok (.putfield 19, 3) := by decide +kernel
theorem dX4_init_30 : decode cX4_init 30 = .ok (.return_, 1) := by decide +kernel
theorem dX4_clear_0 : decode cX4_clear 0 = .ok (.iconst 0, 1) := by decide +kernel
theorem dX4_clear_1 : decode cX4_clear 1 = .ok (.istore_n 1, 1) := by decide +kernel
theorem dX4_clear_2 : decode cX4_clear 2 = .ok (.iload_n 1, 1) := by decide +kernel
theorem dX4_clear_3 : decode cX4_clear 3 = .ok (.sipush 260, 3) := by decide +kernel
theorem dX4_clear_6 : decode cX4_clear 6 = .ok (.if_icmp .ge 16, 3) := by decide +kernel
theorem dX4_clear_9 : decode cX4_clear 9 = .ok (.aload_n 0, 1) := by decide +kernel
theorem dX4_clear_10 : decode cX4_clear 10 = .ok (.getfield 9, 3) := by decide +kernel
theorem dX4_clear_13 : decode cX4_clear 13 = .ok (.iload_n 1, 1) := by decide +kernel
theorem dX4_clear_14 : decode cX4_clear 14 = .ok (.iconst 0, 1) := by decide +kernel
theorem dX4_clear_15 : decode cX4_clear 15 = .ok (.bastore, 1) := by decide +kernel
theorem dX4_clear_16 : decode cX4_clear 16 = .ok (.iinc 1 1, 3) := by decide +kernel
theorem dX4_clear_19 : decode cX4_clear 19 = .ok (.goto (-17), 3) := by decide +kernel
theorem dX4_clear_22 : decode cX4_clear 22 = .ok (.aload_n 0, 1) := by decide +kernel
theorem dX4_clear_23 : decode cX4_clear 23 = .ok (.iconst 0, 1) := by decide +kernel
theorem dX4_clear_24 : decode cX4_clear 24 = .ok (.putfield 22, 3) := by decide +kernel
theorem dX4_clear_27 : decode cX4_clear 27 = .ok (.return_, 1) := by decide +kernel
set_option maxRecDepth 20000 in
theorem ggX4_add_X0_leadsTo : GoodIn wsX4_add wsX0_leadsTo := goodIn_r _ [8, 9, 10, 11, 7, 12, 13, 14, 15, 16, 17, 18, 29, 30, 31, 32, 33] (by decide +kernel) (by decide +kernel)
set_option maxRecDepth 20000 in
theorem gX4_add_X0_leadsTo : GoodIn wsX4_add (wsV RX4 26 RX0 yX0_leadsTo wsX0_leadsTo) := goodIn_app (goodIn_of _ (by decide +kernel)) ggX4_add_X0_leadsTo
set_option maxRecDepth 20000 in
theorem ggX4_add_X0_isAt : GoodIn wsX4_add wsX0_isAt := goodIn_r _ [17, 18, 29, 30, 31, 32, 33] (by decide +kernel) (by decide +kernel)
set_option maxRecDepth 20000 in
theorem gX4_add_X0_isAt : GoodIn wsX4_add (wsV RX4 32 RX0 yX0_isAt wsX0_isAt) := goodIn_app (goodIn_of _ (by decide +kernel)) ggX4_add_X0_isAt
set_option maxRecDepth 20000 in
theorem ggX4_add_X4_isReached : GoodIn wsX4_add wsX4_isReached := goodIn_r _ [24, 2, 25, 26, 27, 28] (by decide +kernel) (by decide +kernel)
set_option maxRecDepth 20000 in
theorem gX4_add_X4_isReached : GoodIn wsX4_add (wsV RX4 36 RX4 yX4_isReached wsX4_isReached) := goodIn_app (goodIn_of _ (by decide +kernel)) ggX4_add_X4_isReached
theorem dX4_add_0 : decode cX4_add 0 = .ok (.aload_n 1, 1) := by decide +kernel
theorem dX4_add_1 : decode cX4_add 1 = .ok (.iload_n 2, 1) := by decide +kernel
theorem dX4_add_2 : decode cX4_add 2 = .ok (.invokevirtual 26, 3) := by decide +kernel
theorem dX4_add_5 : decode cX4_add 5 = .ok (.istore_n 3, 1) := by decide +kernel
theorem dX4_add_6 : decode cX4_add 6 = .ok (.aload_n 1, 1) := by decide +kernel
theorem dX4_add_7 : decode cX4_add 7 = .ok (.iload_n 3, 1) := by decide +kernel
theorem dX4_add_8 : decode cX4_add 8 = .ok (.invokevirtual 32, 3) := by decide +kernel
theorem dX4_add_11 : decode cX4_add 11 = .ok (.ifCond .eq 48, 3) := by decide +kernel
theorem dX4_add_14 : decode cX4_add 14 = .ok (.aload_n 0, 1) := by decide +kernel
theorem dX4_add_15 : decode cX4_add 15 = .ok (.iload_n 3, 1) := by decide +kernel
theorem dX4_add_16 : decode cX4_add 16 = .ok (.invokevirtual 36, 3) := by decide +kernel
theorem dX4_add_19 : decode cX4_add 19 = .ok (.ifCond .ne 40, 3) := by decide +kernel
theorem dX4_add_22 : decode cX4_add 22 = .ok (.aload_n 0, 1) := by decide +kernel
theorem dX4_add_23 : decode cX4_add 23 = .ok (.getfield 22, 3) := by decide +kernel
theorem dX4_add_26 : decode cX4_add 26 = .ok (.sipush 260, 3) := by decide +kernel
theorem dX4_add_29 : decode cX4_add 29 = .ok (.if_icmp .ge 30, 3) := by decide +kernel
theorem dX4_add_32 : decode cX4_add 32 = .ok (.aload_n 0, 1) := by decide +kernel
theorem dX4_add_33 : decode cX4_add 33 = .ok (.getfield 9, 3) := by decide +kernel
theorem dX4_add_36 : decode cX4_add 36 = .ok (.iload_n 3, 1) := by decide +kernel
theorem dX4_add_37 : decode cX4_add 37 = .ok (.iconst 1, 1) := by decide +kernel
theorem dX4_add_38 : decode cX4_add 38 = .ok (.bastore, 1) := by decide +kernel
theorem dX4_add_39 : decode cX4_add 39 = .ok (.aload_n 0, 1) := by decide +kernel
theorem dX4_add_40 : decode cX4_add 40 = .ok (.getfield 15, 3) := by decide +kernel
theorem dX4_add_43 : decode cX4_add 43 = .ok (.aload_n 0, 1) := by decide +kernel
theorem dX4_add_44 : decode cX4_add 44 = .ok (.getfield 22, 3) := by decide +kernel
theorem dX4_add_47 : decode cX4_add 47 = .ok (.iload_n 3, 1) := by decide +kernel
theorem dX4_add_48 : decode cX4_add 48 = .ok (.iastore, 1) := by decide +kernel
theorem dX4_add_49 : decode cX4_add 49 = .ok (.aload_n 0, 1) := by decide +kernel
theorem dX4_add_50 : decode cX4_add 50 = .ok (.dup, 1) := by decide +kernel
theorem dX4_add_51 : decode cX4_add 51 = .ok (.getfield 22, 3) := by decide +kernel
theorem dX4_add_54 : decode cX4_add 54 = .ok (.iconst 1, 1) := by decide +kernel
theorem dX4_add_55 : decode cX4_add 55 = .ok (.iadd, 1) := by decide +kernel
theorem dX4_add_56 : decode cX4_add 56 = .ok (.putfield 22, 3) := by decide +kernel
theorem dX4_add_59 : decode cX4_add 59 = .ok (.return_, 1) := by decide +kernel
theorem dX4_isReached_0 : decode cX4_isReached 0 = .ok (.iload_n 1, 1) := by decide +kernel
theorem dX4_isReached_1 : decode cX4_isReached 1 = .ok (.ifCond .lt 23, 3) := by decide +kernel
theorem dX4_isReached_4 : decode cX4_isReached 4 = .ok (.iload_n 1, 1) := by decide +kernel
theorem dX4_isReached_5 : decode cX4_isReached 5 = .ok (.sipush 260, 3) := by decide +kernel
theorem dX4_isReached_8 : decode cX4_isReached 8 = .ok (.if_icmp .ge 16, 3) := by decide +kernel
theorem dX4_isReached_11 : decode cX4_isReached 11 = .ok (.aload_n 0, 1) := by decide +kernel
theorem dX4_isReached_12 : decode cX4_isReached 12 = .ok (.getfield 9, 3) := by decide +kernel
theorem dX4_isReached_15 : decode cX4_isReached 15 = .ok (.iload_n 1, 1) := by decide +kernel
theorem dX4_isReached_16 : decode cX4_isReached 16 = .ok (.baload, 1) := by decide +kernel
theorem dX4_isReached_17 : decode cX4_isReached 17 = .ok (.ifCond .eq 7, 3) := by decide +kernel
theorem dX4_isReached_20 : decode cX4_isReached 20 = .ok (.iconst 1, 1) := by decide +kernel
theorem dX4_isReached_21 : decode cX4_isReached 21 = .ok (.goto 4, 3) := by decide +kernel
theorem dX4_isReached_24 : decode cX4_isReached 24 = .ok (.iconst 0, 1) := by decide +kernel
theorem dX4_isReached_25 : decode cX4_isReached 25 = .ok (.ireturn, 1) := by decide +kernel
set_option maxRecDepth 20000 in
theorem ggX4_spread_X0_nameAt : GoodIn wsX4_spread wsX0_nameAt := goodIn_r _ [7, 8, 9, 10, 11, 6, 12, 13, 14, 15, 16, 41, 42, 43, 44, 45] (by decide +kernel) (by decide +kernel)
set_option maxRecDepth 20000 in
theorem gX4_spread_X0_nameAt : GoodIn wsX4_spread (wsV RX4 39 RX0 yX0_nameAt wsX0_nameAt) := goodIn_app (goodIn_of _ (by decide +kernel)) ggX4_spread_X0_nameAt
set_option maxRecDepth 20000 in
theorem ggX4_spread_X4_add : GoodIn wsX4_spread wsX4_add := goodIn_r _ [21, 1, 22, 2, 23, 24, 25, 6, 26, 27, 28, 29, 30, 31, 9, 10, 11, 12, 13, 32, 33, 34, 35, 20, 36, 37, 38, 39, 40, 41, 42, 43, 44, 45] (by decide +kernel) (by decide +kernel)
set_option maxRecDepth 20000 in
theorem gX4_spread_X4_add : GoodIn wsX4_spread (wsV RX4 43 RX4 yX4_add wsX4_add) := goodIn_app (goodIn_of _ (by decide +kernel)) ggX4_spread_X4_add
theorem dX4_spread_0 : decode cX4_spread 0 = .ok (.iconst 0, 1) := by decide +kernel
theorem dX4_spread_1 : decode cX4_spread 1 = .ok (.istore_n 2, 1) := by decide +kernel
theorem dX4_spread_2 : decode cX4_spread 2 = .ok (.iload_n 2, 1) := by decide +kernel
theorem dX4_spread_3 : decode cX4_spread 3 = .ok (.aload_n 0, 1) := by decide +kernel
theorem dX4_spread_4 : decode cX4_spread 4 = .ok (.getfield 22, 3) := by decide +kernel
theorem dX4_spread_7 : decode cX4_spread 7 = .ok (.if_icmp .ge 48, 3) := by decide +kernel
theorem dX4_spread_10 : decode cX4_spread 10 = .ok (.iload_n 2, 1) := by decide +kernel
theorem dX4_spread_11 : decode cX4_spread 11 = .ok (.sipush 260, 3) := by decide +kernel
theorem dX4_spread_14 : decode cX4_spread 14 = .ok (.if_icmp .ge 41, 3) := by decide +kernel
theorem dX4_spread_17 : decode cX4_spread 17 = .ok (.aload_n 0, 1) := by decide +kernel
theorem dX4_spread_18 : decode cX4_spread 18 = .ok (.aload_n 1, 1) := by decide +kernel
theorem dX4_spread_19 : decode cX4_spread 19 = .ok (.aload_n 1, 1) := by decide +kernel
theorem dX4_spread_20 : decode cX4_spread 20 = .ok (.aload_n 0, 1) := by decide +kernel
theorem dX4_spread_21 : decode cX4_spread 21 = .ok (.getfield 15, 3) := by decide +kernel
theorem dX4_spread_24 : decode cX4_spread 24 = .ok (.iload_n 2, 1) := by decide +kernel
theorem dX4_spread_25 : decode cX4_spread 25 = .ok (.iaload, 1) := by decide +kernel
theorem dX4_spread_26 : decode cX4_spread 26 = .ok (.iconst 0, 1) := by decide +kernel
theorem dX4_spread_27 : decode cX4_spread 27 = .ok (.invokevirtual 39, 3) := by decide +kernel
theorem dX4_spread_30 : decode cX4_spread 30 = .ok (.invokevirtual 43, 3) := by decide +kernel
theorem dX4_spread_33 : decode cX4_spread 33 = .ok (.aload_n 0, 1) := by decide +kernel
theorem dX4_spread_34 : decode cX4_spread 34 = .ok (.aload_n 1, 1) := by decide +kernel
theorem dX4_spread_35 : decode cX4_spread 35 = .ok (.aload_n 1, 1) := by decide +kernel
theorem dX4_spread_36 : decode cX4_spread 36 = .ok (.aload_n 0, 1) := by decide +kernel
theorem dX4_spread_37 : decode cX4_spread 37 = .ok (.getfield 15, 3) := by decide +kernel
theorem dX4_spread_40 : decode cX4_spread 40 = .ok (.iload_n 2, 1) := by decide +kernel
theorem dX4_spread_41 : decode cX4_spread 41 = .ok (.iaload, 1) := by decide +kernel
theorem dX4_spread_42 : decode cX4_spread 42 = .ok (.iconst 1, 1) := by decide +kernel
theorem dX4_spread_43 : decode cX4_spread 43 = .ok (.invokevirtual 39, 3) := by decide +kernel
theorem dX4_spread_46 : decode cX4_spread 46 = .ok (.invokevirtual 43, 3) := by decide +kernel
theorem dX4_spread_49 : decode cX4_spread 49 = .ok (.iinc 2 1, 3) := by decide +kernel
theorem dX4_spread_52 : decode cX4_spread 52 = .ok (.goto (-50), 3) := by decide +kernel
theorem dX4_spread_55 : decode cX4_spread 55 = .ok (.return_, 1) := by decide +kernel
set_option maxRecDepth 20000 in
theorem ggX4_differentThings_X0_thingAt : GoodIn wsX4_differentThings wsX0_thingAt := goodIn_r _ [8, 9, 10, 11, 12, 7, 13, 14, 19, 20, 21, 22, 23] (by decide +kernel) (by decide +kernel)
set_option maxRecDepth 20000 in
theorem gX4_differentThings_X0_thingAt : GoodIn wsX4_differentThings (wsV RX4 47 RX0 yX0_thingAt wsX0_thingAt) := goodIn_app (goodIn_of _ (by decide +kernel)) ggX4_differentThings_X0_thingAt
theorem dX4_differentThings_0 : decode cX4_differentThings 0 = .ok (.iconst 0, 1) := by decide +kernel
theorem dX4_differentThings_1 : decode cX4_differentThings 1 = .ok (.istore_n 2, 1) := by decide +kernel
theorem dX4_differentThings_2 : decode cX4_differentThings 2 = .ok (.iload_n 2, 1) := by decide +kernel
theorem dX4_differentThings_3 : decode cX4_differentThings 3 = .ok (.bipush 40, 2) := by decide +kernel
theorem dX4_differentThings_5 : decode cX4_differentThings 5 = .ok (.if_icmp .ge 16, 3) := by decide +kernel
theorem dX4_differentThings_8 : decode cX4_differentThings 8 = .ok (.aload_n 0, 1) := by decide +kernel
theorem dX4_differentThings_9 : decode cX4_differentThings 9 = .ok (.getfield 19, 3) := by decide +kernel
theorem dX4_differentThings_12 : decode cX4_differentThings 12 = .ok (.iload_n 2, 1) := by decide +kernel
theorem dX4_differentThings_13 : decode cX4_differentThings 13 = .ok (.iconst 0, 1) := by decide +kernel
theorem dX4_differentThings_14 : decode cX4_differentThings 14 = .ok (.bastore, 1) := by decide +kernel
theorem dX4_differentThings_15 : decode cX4_differentThings 15 = .ok (.iinc 2 1, 3) := by decide +kernel
theorem dX4_differentThings_18 : decode cX4_differentThings 18 = .ok (.goto (-16), 3) := by decide +kernel
theorem dX4_differentThings_21 : decode cX4_differentThings 21 = .ok (.iconst 0, 1) := by decide +kernel
theorem dX4_differentThings_22 : decode cX4_differentThings 22 = .ok (.istore_n 2, 1) := by decide +kernel
theorem dX4_differentThings_23 : decode cX4_differentThings 23 = .ok (.iconst 0, 1) := by decide +kernel
theorem dX4_differentThings_24 : decode cX4_differentThings 24 = .ok (.istore_n 3, 1) := by decide +kernel
theorem dX4_differentThings_25 : decode cX4_differentThings 25 = .ok (.iload_n 3, 1) := by decide +kernel
theorem dX4_differentThings_26 : decode cX4_differentThings 26 = .ok (.aload_n 0, 1) := by decide +kernel
theorem dX4_differentThings_27 : decode cX4_differentThings 27 = .ok (.getfield 22, 3) := by decide +kernel
theorem dX4_differentThings_30 : decode cX4_differentThings 30 = .ok (.if_icmp .ge 61, 3) := by decide +kernel
theorem dX4_differentThings_33 : decode cX4_differentThings 33 = .ok (.iload_n 3, 1) := by decide +kernel
theorem dX4_differentThings_34 : decode cX4_differentThings 34 = .ok (.sipush 260, 3) := by decide +kernel
theorem dX4_differentThings_37 : decode cX4_differentThings 37 = .ok (.if_icmp .ge 54, 3) := by decide +kernel
theorem dX4_differentThings_40 : decode cX4_differentThings 40 = .ok (.aload_n 1, 1) := by decide +kernel
theorem dX4_differentThings_41 : decode cX4_differentThings 41 = .ok (.aload_n 0, 1) := by decide +kernel
theorem dX4_differentThings_42 : decode cX4_differentThings 42 = .ok (.getfield 15, 3) := by decide +kernel
theorem dX4_differentThings_45 : decode cX4_differentThings 45 = .ok (.iload_n 3, 1) := by decide +kernel
theorem dX4_differentThings_46 : decode cX4_differentThings 46 = .ok (.iaload, 1) := by decide +kernel
theorem dX4_differentThings_47 : decode cX4_differentThings 47 = .ok (.invokevirtual 47, 3) := by decide +kernel
theorem dX4_differentThings_50 : decode cX4_differentThings 50 = .ok (.istore 4, 2) := by decide +kernel
theorem dX4_differentThings_52 : decode cX4_differentThings 52 = .ok (.iload 4, 2) := by decide +kernel
theorem dX4_differentThings_54 : decode cX4_differentThings 54 = .ok (.ifCond .lt 31, 3) := by decide +kernel
theorem dX4_differentThings_57 : decode cX4_differentThings 57 = .ok (.iload 4, 2) := by decide +kernel
theorem dX4_differentThings_59 : decode cX4_differentThings 59 = .ok (.bipush 40, 2) := by decide +kernel
theorem dX4_differentThings_61 : decode cX4_differentThings 61 = .ok (.if_icmp .ge 24, 3) := by decide +kernel
theorem dX4_differentThings_64 : decode cX4_differentThings 64 = .ok (.aload_n 0, 1) := by decide +kernel
theorem dX4_differentThings_65 : decode cX4_differentThings 65 = .ok (.getfield 19, 3) := by decide +kernel
theorem dX4_differentThings_68 : decode cX4_differentThings 68 = .ok (.iload 4, 2) := by decide +kernel
theorem dX4_differentThings_70 : decode cX4_differentThings 70 = .ok (.baload, 1) := by decide +kernel
theorem dX4_differentThings_71 : decode cX4_differentThings 71 = .ok (.ifCond .ne 14, 3) := by decide +kernel
theorem dX4_differentThings_74 : decode cX4_differentThings 74 = .ok (.aload_n 0, 1) := by decide +kernel
theorem dX4_differentThings_75 : decode cX4_differentThings 75 = .ok (.getfield 19, 3) := by decide +kernel
theorem dX4_differentThings_78 : decode cX4_differentThings 78 = .ok (.iload 4, 2) := by decide +kernel
theorem dX4_differentThings_80 : decode cX4_differentThings 80 = .ok (.iconst 1, 1) := by decide +kernel
theorem dX4_differentThings_81 : decode cX4_differentThings 81 = .ok (.bastore, 1) := by decide +kernel
theorem dX4_differentThings_82 : decode cX4_differentThings 82 = .ok (.iinc 2 1, 3) := by decide +kernel
theorem dX4_differentThings_85 : decode cX4_differentThings 85 = .ok (.iinc 3 1, 3) := by decide +kernel
theorem dX4_differentThings_88 : decode cX4_differentThings 88 = .ok (.goto (-63), 3) := by decide +kernel
theorem dX4_differentThings_91 : decode cX4_differentThings 91 = .ok (.iload_n 2, 1) := by decide +kernel
theorem dX4_differentThings_92 : decode cX4_differentThings 92 = .ok (.ireturn, 1) := by decide +kernel
set_option maxRecDepth 20000 in
theorem ggX4_placesOutside_X4_isReached : GoodIn wsX4_placesOutside wsX4_isReached := goodIn_r _ [5, 6, 22, 23, 24, 25] (by decide +kernel) (by decide +kernel)
set_option maxRecDepth 20000 in
theorem gX4_placesOutside_X4_isReached : GoodIn wsX4_placesOutside (wsV RX4 36 RX4 yX4_isReached wsX4_isReached) := goodIn_app (goodIn_of _ (by decide +kernel)) ggX4_placesOutside_X4_isReached
set_option maxRecDepth 20000 in
theorem ggX4_placesOutside_X0_noteAt : GoodIn wsX4_placesOutside wsX0_noteAt := goodIn_r _ [11, 12, 13, 14, 15, 10, 16, 17, 26, 27, 28, 29, 30] (by decide +kernel) (by decide +kernel)
set_option maxRecDepth 20000 in
theorem gX4_placesOutside_X0_noteAt : GoodIn wsX4_placesOutside (wsV RX4 50 RX0 yX0_noteAt wsX0_noteAt) := goodIn_app (goodIn_of _ (by decide +kernel)) ggX4_placesOutside_X0_noteAt
set_option maxRecDepth 20000 in
theorem ggX4_placesOutside_X0_sizeAt : GoodIn wsX4_placesOutside wsX0_sizeAt := goodIn_r _ [21, 17, 13, 14, 15, 10, 16, 26, 27, 28, 29, 30] (by decide +kernel) (by decide +kernel)
set_option maxRecDepth 20000 in
theorem gX4_placesOutside_X0_sizeAt : GoodIn wsX4_placesOutside (wsV RX4 53 RX0 yX0_sizeAt wsX0_sizeAt) := goodIn_app (goodIn_of _ (by decide +kernel)) ggX4_placesOutside_X0_sizeAt
theorem dX4_placesOutside_0 : decode cX4_placesOutside 0 = .ok (.iconst 0, 1) := by decide +kernel
theorem dX4_placesOutside_1 : decode cX4_placesOutside 1 = .ok (.istore_n 2, 1) := by decide +kernel
theorem dX4_placesOutside_2 : decode cX4_placesOutside 2 = .ok (.iconst 0, 1) := by decide +kernel
theorem dX4_placesOutside_3 : decode cX4_placesOutside 3 = .ok (.istore_n 3, 1) := by decide +kernel
theorem dX4_placesOutside_4 : decode cX4_placesOutside 4 = .ok (.iload_n 3, 1) := by decide +kernel
theorem dX4_placesOutside_5 : decode cX4_placesOutside 5 = .ok (.sipush 260, 3) := by decide +kernel
theorem dX4_placesOutside_8 : decode cX4_placesOutside 8 = .ok (.if_icmp .ge 36, 3) := by decide +kernel
theorem dX4_placesOutside_11 : decode cX4_placesOutside 11 = .ok (.aload_n 0, 1) := by decide +kernel
theorem dX4_placesOutside_12 : decode cX4_placesOutside 12 = .ok (.iload_n 3, 1) := by decide +kernel
theorem dX4_placesOutside_13 : decode cX4_placesOutside 13 = .ok (.invokevirtual 36, 3) := by decide +kernel
theorem dX4_placesOutside_16 : decode cX4_placesOutside 16 = .ok (.ifCond .ne 22, 3) := by decide +kernel
theorem dX4_placesOutside_19 : decode cX4_placesOutside 19 = .ok (.aload_n 1, 1) := by decide +kernel
theorem dX4_placesOutside_20 : decode cX4_placesOutside 20 = .ok (.iload_n 3, 1) := by decide +kernel
theorem dX4_placesOutside_21 : decode cX4_placesOutside 21 = .ok (.invokevirtual 50, 3) := by decide +kernel
theorem dX4_placesOutside_24 : decode cX4_placesOutside 24 = .ok (.sipush 300, 3) := by decide +kernel
theorem dX4_placesOutside_27 : decode cX4_placesOutside 27 = .ok (.if_icmp .ne 11, 3) := by decide +kernel
theorem dX4_placesOutside_30 : decode cX4_placesOutside 30 = .ok (.iload_n 2, 1) := by decide +kernel
theorem dX4_placesOutside_31 : decode cX4_placesOutside 31 = .ok (.aload_n 1, 1) := by decide +kernel
theorem dX4_placesOutside_32 : decode cX4_placesOutside 32 = .ok (.iload_n 3, 1) := by decide +kernel
theorem dX4_placesOutside_33 : decode cX4_placesOutside 33 = .ok (.invokevirtual 53, 3) := by decide +kernel
theorem dX4_placesOutside_36 : decode cX4_placesOutside 36 = .ok (.iadd, 1) := by decide +kernel
theorem dX4_placesOutside_37 : decode cX4_placesOutside 37 = .ok (.istore_n 2, 1) := by decide +kernel
theorem dX4_placesOutside_38 : decode cX4_placesOutside 38 = .ok (.iinc 3 1, 3) := by decide +kernel
theorem dX4_placesOutside_41 : decode cX4_placesOutside 41 = .ok (.goto (-37), 3) := by decide +kernel
theorem dX4_placesOutside_44 : decode cX4_placesOutside 44 = .ok (.iload_n 2, 1) := by decide +kernel
theorem dX4_placesOutside_45 : decode cX4_placesOutside 45 = .ok (.ireturn, 1) := by decide +kernel
set_option maxRecDepth 20000 in
theorem ggX5_init_X0_init : GoodIn wsX5_init wsX0_init := goodIn_r _ [17, 18, 2, 3, 4, 19, 20, 21, 22, 23, 24, 25, 26, 27, 43, 44, 45, 46, 47] (by decide +kernel) (by decide +kernel)
set_option maxRecDepth 20000 in
theorem gX5_init_X0_init : GoodIn wsX5_init (wsX0_init) := ggX5_init_X0_init
set_option maxRecDepth 20000 in
theorem ggX5_init_X3_init : GoodIn wsX5_init wsX3_init := goodIn_r _ [29, 30, 2, 3, 4, 31, 48, 49, 50] (by decide +kernel) (by decide +kernel)
set_option maxRecDepth 20000 in
theorem gX5_init_X3_init_n24 : GoodIn wsX5_init (wsX3_init) := ggX5_init_X3_init
set_option maxRecDepth 20000 in
theorem ggX5_init_J7_fill_53178 : GoodIn wsX5_init wsJ7_fill_53178 := goodIn_r _ [27] (by decide +kernel) (by decide +kernel)
set_option maxRecDepth 20000 in
theorem gX5_init_J7_fill_53178 : GoodIn wsX5_init (va_wsS RX5 33 yJ7_fill_53178 wsJ7_fill_53178) := goodIn_app (goodIn_of _ (by decide +kernel)) ggX5_init_J7_fill_53178
theorem dX5_init_0 : decode cX5_init 0 = .ok (.aload_n 0, 1) := by decide +kernel
theorem dX5_init_1 : decode cX5_init 1 = .ok (.invokespecial 3, 3) := by decide +kernel
theorem dX5_init_4 : decode cX5_init 4 = .ok (.aload_n 0, 1) := by decide +kernel
theorem dX5_init_5 : decode cX5_init 5 = .ok (.bipush 8, 2) := by decide +kernel
theorem dX5_init_7 : decode cX5_init 7 = .ok (.newarray .int, 2) := by decide +kernel
theorem dX5_init_9 : decode cX5_init 9 = .ok (.putfield 9, 3) := by decide +kernel
theorem dX5_init_12 : decode cX5_init 12 = .ok (.aload_n 0, 1) := by decide +kernel
theorem dX5_init_13 : decode cX5_init 13 = .ok (.new 15, 3) := by decide +kernel
theorem dX5_init_16 : decode cX5_init 16 = .ok (.dup, 1) := by decide +kernel
theorem dX5_init_17 : decode cX5_init 17 = .ok (.invokespecial 17, 3) := by decide +kernel
theorem dX5_init_20 : decode cX5_init 20 = .ok (.putfield 18, 3) := by decide +kernel
theorem dX5_init_23 : decode cX5_init 23 = .ok (.aload_n 0, 1) := by decide +kernel
theorem dX5_init_24 : decode cX5_init 24 = .ok (.new 22, 3) := by decide +kernel
theorem dX5_init_27 : decode cX5_init 27 = .ok (.dup, 1) := by decide +kernel
theorem dX5_init_28 : decode cX5_init 28 = .ok (.invokespecial 24, 3) := by decide +kernel
theorem dX5_init_31 : decode cX5_init 31 = .ok (.putfield 25, 3) := by decide +kernel
theorem dX5_init_34 : decode cX5_init 34 = .ok (.aload_n 0, 1) := by decide +kernel
theorem dX5_init_35 : decode cX5_init 35 = .ok (.bipush 6, 2) := by decide +kernel
theorem dX5_init_37 : decode cX5_init 37 = .ok (.putfield 29, 3) := by decide +kernel
theorem dX5_init_40 : decode cX5_init 40 = .ok (.aload_n 0, 1) := by decide +kernel
theorem dX5_init_41 : decode cX5_init 41 = .ok (.getfield 9, 3) := by decide +kernel
theorem dX5_init_44 : decode cX5_init 44 = .ok (.sipush 300, 3) := by decide +kernel
theorem dX5_init_47 : decode cX5_init 47 = .ok (.invokestatic 33, 3) := by decide +kernel
theorem dX5_init_50 : decode cX5_init 50 = .ok (.return_, 1) := by decide +kernel
set_option maxRecDepth 20000 in
theorem ggX5_become_X0_become : GoodIn wsX5_become wsX0_become := goodIn_r _ [19, 20, 21, 3, 4, 5, 22, 23, 24, 25, 45, 46, 47, 48, 49] (by decide +kernel) (by decide +kernel)
set_option maxRecDepth 20000 in
theorem gX5_become_X0_become : GoodIn wsX5_become (wsV RX5 45 RX0 yX0_become wsX0_become) := goodIn_app (goodIn_of _ (by decide +kernel)) ggX5_become_X0_become
set_option maxRecDepth 20000 in
theorem ggX5_become_X3_become : GoodIn wsX5_become wsX3_become := goodIn_r _ [30, 31, 32, 3, 4, 5, 33, 34, 50, 51, 52] (by decide +kernel) (by decide +kernel)
set_option maxRecDepth 20000 in
theorem gX5_become_X3_become : GoodIn wsX5_become (wsV RX5 49 RX3 yX3_become wsX3_become) := goodIn_app (goodIn_of _ (by decide +kernel)) ggX5_become_X3_become
theorem dX5_become_0 : decode cX5_become 0 = .ok (.aload_n 1, 1) := by decide +kernel
theorem dX5_become_1 : decode cX5_become 1 = .ok (.getfield 9, 3) := by decide +kernel
theorem dX5_become_4 : decode cX5_become 4 = .ok (.iconst 0, 1) := by decide +kernel
theorem dX5_become_5 : decode cX5_become 5 = .ok (.aload_n 0, 1) := by decide +kernel
theorem dX5_become_6 : decode cX5_become 6 = .ok (.getfield 9, 3) := by decide +kernel
theorem dX5_become_9 : decode cX5_become 9 = .ok (.iconst 0, 1) := by decide +kernel
theorem dX5_become_10 : decode cX5_become 10 = .ok (.bipush 8, 2) := by decide +kernel
theorem dX5_become_12 : decode cX5_become 12 = .ok (.invokestatic 39, 3) := by decide +kernel
theorem dX5_become_15 : decode cX5_become 15 = .ok (.aload_n 0, 1) := by decide +kernel
theorem dX5_become_16 : decode cX5_become 16 = .ok (.getfield 18, 3) := by decide +kernel
theorem dX5_become_19 : decode cX5_become 19 = .ok (.aload_n 1, 1) := by decide +kernel
theorem dX5_become_20 : decode cX5_become 20 = .ok (.getfield 18, 3) := by decide +kernel
theorem dX5_become_23 : decode cX5_become 23 = .ok (.invokevirtual 45, 3) := by decide +kernel
theorem dX5_become_26 : decode cX5_become 26 = .ok (.aload_n 0, 1) := by decide +kernel
theorem dX5_become_27 : decode cX5_become 27 = .ok (.getfield 25, 3) := by decide +kernel
theorem dX5_become_30 : decode cX5_become 30 = .ok (.aload_n 1, 1) := by decide +kernel
theorem dX5_become_31 : decode cX5_become 31 = .ok (.getfield 25, 3) := by decide +kernel
theorem dX5_become_34 : decode cX5_become 34 = .ok (.invokevirtual 49, 3) := by decide +kernel
theorem dX5_become_37 : decode cX5_become 37 = .ok (.aload_n 0, 1) := by decide +kernel
theorem dX5_become_38 : decode cX5_become 38 = .ok (.aload_n 1, 1) := by decide +kernel
theorem dX5_become_39 : decode cX5_become 39 = .ok (.getfield 29, 3) := by decide +kernel
theorem dX5_become_42 : decode cX5_become 42 = .ok (.putfield 29, 3) := by decide +kernel
theorem dX5_become_45 : decode cX5_become 45 = .ok (.aload_n 0, 1) := by decide +kernel
theorem dX5_become_46 : decode cX5_become 46 = .ok (.aload_n 1, 1) := by decide +kernel
theorem dX5_become_47 : decode cX5_become 47 = .ok (.getfield 52, 3) := by decide +kernel
theorem dX5_become_50 : decode cX5_become 50 = .ok (.putfield 52, 3) := by decide +kernel
theorem dX5_become_53 : decode cX5_become 53 = .ok (.aload_n 0, 1) := by decide +kernel
theorem dX5_become_54 : decode cX5_become 54 = .ok (.aload_n 1, 1) := by decide +kernel
theorem dX5_become_55 : decode cX5_become 55 = .ok (.getfield 55, 3) := by decide +kernel
theorem dX5_become_58 : decode cX5_become 58 = .ok (.putfield 55, 3) := by decide +kernel
theorem dX5_become_61 : decode cX5_become 61 = .ok (.aload_n 0, 1) := by decide +kernel
theorem dX5_become_62 : decode cX5_become 62 = .ok (.aload_n 1, 1) := by decide +kernel
theorem dX5_become_63 : decode cX5_become 63 = .ok (.getfield 59, 3) := by decide +kernel
theorem dX5_become_66 : decode cX5_become 66 = .ok (.putfield 59, 3) := by decide +kernel
theorem dX5_become_69 : decode cX5_become 69 = .ok (.aload_n 0, 1) := by decide +kernel
theorem dX5_become_70 : decode cX5_become 70 = .ok (.aload_n 1, 1) := by decide +kernel
theorem dX5_become_71 : decode cX5_become 71 = .ok (.getfield 62, 3) := by decide +kernel
theorem dX5_become_74 : decode cX5_become 74 = .ok (.putfield 62, 3) := by decide +kernel
theorem dX5_become_77 : decode cX5_become 77 = .ok (.aload_n 0, 1) := by decide +kernel
theorem dX5_become_78 : decode cX5_become 78 = .ok (.aload_n 1, 1) := by decide +kernel
theorem dX5_become_79 : decode cX5_become 79 = .ok (.getfield 65, 3) := by decide +kernel
theorem dX5_become_82 : decode cX5_become 82 = .ok (.putfield 65, 3) := by decide +kernel
theorem dX5_become_85 : decode cX5_become 85 = .ok (.aload_n 0, 1) := by decide +kernel
theorem dX5_become_86 : decode cX5_become 86 = .ok (.aload_n 1, 1) := by decide +kernel
theorem dX5_become_87 : decode cX5_become 87 = .ok (.getfield 68, 3) := by decide +kernel
theorem dX5_become_90 : decode cX5_become 90 = .ok (.putfield 68, 3) := by decide +kernel
theorem dX5_become_93 : decode cX5_become 93 = .ok (.return_, 1) := by decide +kernel
theorem dX5_isThing_0 : decode cX5_isThing 0 = .ok (.iload_n 1, 1) := by decide +kernel
theorem dX5_isThing_1 : decode cX5_isThing 1 = .ok (.ifCond .lt 15, 3) := by decide +kernel
theorem dX5_isThing_4 : decode cX5_isThing 4 = .ok (.iload_n 1, 1) := by decide +kernel
theorem dX5_isThing_5 : decode cX5_isThing 5 = .ok (.aload_n 0, 1) := by decide +kernel
theorem dX5_isThing_6 : decode cX5_isThing 6 = .ok (.getfield 52, 3) := by decide +kernel
theorem dX5_isThing_9 : decode cX5_isThing 9 = .ok (.if_icmp .ge 7, 3) := by decide +kernel
theorem dX5_isThing_12 : decode cX5_isThing 12 = .ok (.iconst 1, 1) := by decide +kernel
theorem dX5_isThing_13 : decode cX5_isThing 13 = .ok (.goto 4, 3) := by decide +kernel
theorem dX5_isThing_16 : decode cX5_isThing 16 = .ok (.iconst 0, 1) := by decide +kernel
theorem dX5_isThing_17 : decode cX5_isThing 17 = .ok (.ireturn, 1) := by decide +kernel
set_option maxRecDepth 20000 in
theorem ggX5_hungOn_X7_isHook : GoodIn wsX5_hungOn wsX7_isHook := goodIn_r _ [4] (by decide +kernel) (by decide +kernel)
set_option maxRecDepth 20000 in
theorem gX5_hungOn_X7_isHook_n71 : GoodIn wsX5_hungOn (wsX7_isHook) := ggX5_hungOn_X7_isHook
theorem dX5_hungOn_0 : decode cX5_hungOn 0 = .ok (.iload_n 1, 1) := by decide +kernel
theorem dX5_hungOn_1 : decode cX5_hungOn 1 = .ok (.invokestatic 71, 3) := by decide +kernel
theorem dX5_hungOn_4 : decode cX5_hungOn 4 = .ok (.ifCond .eq 12, 3) := by decide +kernel
theorem dX5_hungOn_7 : decode cX5_hungOn 7 = .ok (.aload_n 0, 1) := by decide +kernel
theorem dX5_hungOn_8 : decode cX5_hungOn 8 = .ok (.getfield 9, 3) := by decide +kernel
theorem dX5_hungOn_11 : decode cX5_hungOn 11 = .ok (.iload_n 1, 1) := by decide +kernel
theorem dX5_hungOn_12 : decode cX5_hungOn 12 = .ok (.iaload, 1) := by decide +kernel
theorem dX5_hungOn_13 : decode cX5_hungOn 13 = .ok (.goto 6, 3) := by decide +kernel
theorem dX5_hungOn_16 : decode cX5_hungOn 16 = .ok (.sipush 300, 3) := by decide +kernel
theorem dX5_hungOn_19 : decode cX5_hungOn 19 = .ok (.ireturn, 1) := by decide +kernel
theorem dX5_freeInHalf_0 : decode cX5_freeInHalf 0 = .ok (.bipush 64, 2) := by decide +kernel
theorem dX5_freeInHalf_2 : decode cX5_freeInHalf 2 = .ok (.aload_n 0, 1) := by decide +kernel
theorem dX5_freeInHalf_3 : decode cX5_freeInHalf 3 = .ok (.getfield 62, 3) := by decide +kernel
theorem dX5_freeInHalf_6 : decode cX5_freeInHalf 6 = .ok (.isub, 1) := by decide +kernel
theorem dX5_freeInHalf_7 : decode cX5_freeInHalf 7 = .ok (.ireturn, 1) := by decide +kernel
theorem dX5_addressOfHalf_0 : decode cX5_addressOfHalf 0 = .ok (.iload_n 1, 1) := by decide +kernel
theorem dX5_addressOfHalf_1 : decode cX5_addressOfHalf 1 = .ok (.bipush 100, 2) := by decide +kernel
theorem dX5_addressOfHalf_3 : decode cX5_addressOfHalf 3 = .ok (.imul, 1) := by decide +kernel
theorem dX5_addressOfHalf_4 : decode cX5_addressOfHalf 4 = .ok (.ireturn, 1) := by decide +kernel
set_option maxRecDepth 20000 in
theorem ggX5_isInOldHalf_X5_addressOfHalf : GoodIn wsX5_isInOldHalf wsX5_addressOfHalf := goodIn_r _ [7] (by decide +kernel) (by decide +kernel)
set_option maxRecDepth 20000 in
theorem gX5_isInOldHalf_X5_addressOfHalf : GoodIn wsX5_isInOldHalf (wsV RX5 75 RX5 yX5_addressOfHalf wsX5_addressOfHalf) := goodIn_app (goodIn_of _ (by decide +kernel)) ggX5_isInOldHalf_X5_addressOfHalf
theorem dX5_isInOldHalf_0 : decode cX5_isInOldHalf 0 = .ok (.iload_n 1, 1) := by decide +kernel
theorem dX5_isInOldHalf_1 : decode cX5_isInOldHalf 1 = .ok (.aload_n 0, 1) := by decide +kernel
theorem dX5_isInOldHalf_2 : decode cX5_isInOldHalf 2 = .ok (.iconst 1, 1) := by decide +kernel
theorem dX5_isInOldHalf_3 : decode cX5_isInOldHalf 3 = .ok (.aload_n 0, 1) := by decide +kernel
theorem dX5_isInOldHalf_4 : decode cX5_isInOldHalf 4 = .ok (.getfield 59, 3) := by decide +kernel
theorem dX5_isInOldHalf_7 : decode cX5_isInOldHalf 7 = .ok (.isub, 1) := by decide +kernel
theorem dX5_isInOldHalf_8 : decode cX5_isInOldHalf 8 = .ok (.invokevirtual 75, 3) := by decide +kernel
theorem dX5_isInOldHalf_11 : decode cX5_isInOldHalf 11 = .ok (.isub, 1) := by decide +kernel
theorem dX5_isInOldHalf_12 : decode cX5_isInOldHalf 12 = .ok (.istore_n 2, 1) := by decide +kernel
theorem dX5_isInOldHalf_13 : decode cX5_isInOldHalf 13 = .ok (.aload_n 0, 1) := by decide +kernel
theorem dX5_isInOldHalf_14 : decode cX5_isInOldHalf 14 = .ok (.getfield 55, 3) := by decide +kernel
theorem dX5_isInOldHalf_17 : decode cX5_isInOldHalf 17 = .ok (.ifCond .eq 17, 3) := by decide +kernel
theorem dX5_isInOldHalf_20 : decode cX5_isInOldHalf 20 = .ok (.iload_n 2, 1) := by decide +kernel
theorem dX5_isInOldHalf_21 : decode cX5_isInOldHalf 21 = .ok (.ifCond .lt 13, 3) := by decide +kernel
theorem dX5_isInOldHalf_24 : decode cX5_isInOldHalf 24 = .ok (.iload_n 2, 1) := by decide +kernel
