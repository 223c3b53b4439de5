theorem dX8_make_145 : decode cX8_make 145 = .ok (.iconst 1, 1) := by decide +kernel
theorem dX8_make_146 : decode cX8_make 146 = .ok (.iadd, 1) := by decide +kernel
theorem dX8_make_147 : decode cX8_make 147 = .ok (.iastore, 1) := by decide +kernel
theorem dX8_make_148 : decode cX8_make 148 = .ok (.sipush 128, 3) := by decide +kernel
theorem dX8_make_151 : decode cX8_make 151 = .ok (.iload 4, 2) := by decide +kernel
theorem dX8_make_153 : decode cX8_make 153 = .ok (.iadd, 1) := by decide +kernel
theorem dX8_make_154 : decode cX8_make 154 = .ok (.istore 7, 2) := by decide +kernel
theorem dX8_make_156 : decode cX8_make 156 = .ok (.iload_n 3, 1) := by decide +kernel
theorem dX8_make_157 : decode cX8_make 157 = .ok (.ifCond .eq 24, 3) := by decide +kernel
theorem dX8_make_160 : decode cX8_make 160 = .ok (.aload_n 0, 1) := by decide +kernel
theorem dX8_make_161 : decode cX8_make 161 = .ok (.iload 7, 2) := by decide +kernel
theorem dX8_make_163 : decode cX8_make 163 = .ok (.iload 6, 2) := by decide +kernel
theorem dX8_make_165 : decode cX8_make 165 = .ok (.bipush (-9), 2) := by decide +kernel
theorem dX8_make_167 : decode cX8_make 167 = .ok (.bipush (-9), 2) := by decide +kernel
theorem dX8_make_169 : decode cX8_make 169 = .ok (.aload_n 0, 1) := by decide +kernel
theorem dX8_make_170 : decode cX8_make 170 = .ok (.getfield 7, 3) := by decide +kernel
theorem dX8_make_173 : decode cX8_make 173 = .ok (.iconst 2, 1) := by decide +kernel
theorem dX8_make_174 : decode cX8_make 174 = .ok (.iaload, 1) := by decide +kernel
theorem dX8_make_175 : decode cX8_make 175 = .ok (.invokevirtual 64, 3) := by decide +kernel
theorem dX8_make_178 : decode cX8_make 178 = .ok (.goto 15, 3) := by decide +kernel
theorem dX8_make_181 : decode cX8_make 181 = .ok (.aload_n 0, 1) := by decide +kernel
theorem dX8_make_182 : decode cX8_make 182 = .ok (.iload 6, 2) := by decide +kernel
theorem dX8_make_184 : decode cX8_make 184 = .ok (.bipush (-9), 2) := by decide +kernel
theorem dX8_make_186 : decode cX8_make 186 = .ok (.bipush (-9), 2) := by decide +kernel
theorem dX8_make_188 : decode cX8_make 188 = .ok (.invokevirtual 68, 3) := by decide +kernel
theorem dX8_make_191 : decode cX8_make 191 = .ok (.istore 7, 2) := by decide +kernel
theorem dX8_make_193 : decode cX8_make 193 = .ok (.aload_n 0, 1) := by decide +kernel
theorem dX8_make_194 : decode cX8_make 194 = .ok (.getfield 7, 3) := by decide +kernel
theorem dX8_make_197 : decode cX8_make 197 = .ok (.bipush 9, 2) := by decide +kernel
theorem dX8_make_199 : decode cX8_make 199 = .ok (.iload_n 2, 1) := by decide +kernel
theorem dX8_make_200 : decode cX8_make 200 = .ok (.iadd, 1) := by decide +kernel
theorem dX8_make_201 : decode cX8_make 201 = .ok (.iload 7, 2) := by decide +kernel
theorem dX8_make_203 : decode cX8_make 203 = .ok (.invokestatic 76, 3) := by decide +kernel
theorem dX8_make_206 : decode cX8_make 206 = .ok (.iastore, 1) := by decide +kernel
theorem dX8_make_207 : decode cX8_make 207 = .ok (.iload 6, 2) := by decide +kernel
theorem dX8_make_209 : decode cX8_make 209 = .ok (.ireturn, 1) := by decide +kernel
theorem dX8_told_0 : decode cX8_told 0 = .ok (.iload_n 0, 1) := by decide +kernel
theorem dX8_told_1 : decode cX8_told 1 = .ok (.bipush (-9), 2) := by decide +kernel
theorem dX8_told_3 : decode cX8_told 3 = .ok (.if_icmp .ne 9, 3) := by decide +kernel
theorem dX8_told_6 : decode cX8_told 6 = .ok (.sipush 300, 3) := by decide +kernel
theorem dX8_told_9 : decode cX8_told 9 = .ok (.goto 4, 3) := by decide +kernel
theorem dX8_told_12 : decode cX8_told 12 = .ok (.iload_n 0, 1) := by decide +kernel
theorem dX8_told_13 : decode cX8_told 13 = .ok (.ireturn, 1) := by decide +kernel
set_option maxRecDepth 20000 in
theorem ggX8_isRight_X8_isHook : GoodIn wsX8_isRight wsX8_isHook := goodIn_r _ [4, 5, 6, 3, 7] (by decide +kernel) (by decide +kernel)
set_option maxRecDepth 20000 in
theorem gX8_isRight_X8_isHook : GoodIn wsX8_isRight (va_wsS RX8 97 yX8_isHook wsX8_isHook) := goodIn_app (goodIn_of _ (by decide +kernel)) ggX8_isRight_X8_isHook
set_option maxRecDepth 20000 in
theorem ggX8_isRight_X8_in : GoodIn wsX8_isRight wsX8_in := goodIn_r _ [7] (by decide +kernel) (by decide +kernel)
set_option maxRecDepth 20000 in
theorem gX8_isRight_X8_in : GoodIn wsX8_isRight (va_wsS RX8 40 yX8_in wsX8_in) := goodIn_app (goodIn_of _ (by decide +kernel)) ggX8_isRight_X8_in
theorem dX8_isRight_0 : decode cX8_isRight 0 = .ok (.iload_n 1, 1) := by decide +kernel
theorem dX8_isRight_1 : decode cX8_isRight 1 = .ok (.invokestatic 97, 3) := by decide +kernel
theorem dX8_isRight_4 : decode cX8_isRight 4 = .ok (.ifCond .eq 23, 3) := by decide +kernel
theorem dX8_isRight_7 : decode cX8_isRight 7 = .ok (.iload_n 2, 1) := by decide +kernel
theorem dX8_isRight_8 : decode cX8_isRight 8 = .ok (.iconst 0, 1) := by decide +kernel
theorem dX8_isRight_9 : decode cX8_isRight 9 = .ok (.iconst 1, 1) := by decide +kernel
theorem dX8_isRight_10 : decode cX8_isRight 10 = .ok (.invokestatic 40, 3) := by decide +kernel
theorem dX8_isRight_13 : decode cX8_isRight 13 = .ok (.ifCond .eq 14, 3) := by decide +kernel
theorem dX8_isRight_16 : decode cX8_isRight 16 = .ok (.iload_n 3, 1) := by decide +kernel
theorem dX8_isRight_17 : decode cX8_isRight 17 = .ok (.invokestatic 97, 3) := by decide +kernel
theorem dX8_isRight_20 : decode cX8_isRight 20 = .ok (.ifCond .eq 7, 3) := by decide +kernel
theorem dX8_isRight_23 : decode cX8_isRight 23 = .ok (.iconst 1, 1) := by decide +kernel
theorem dX8_isRight_24 : decode cX8_isRight 24 = .ok (.goto 4, 3) := by decide +kernel
theorem dX8_isRight_27 : decode cX8_isRight 27 = .ok (.iconst 0, 1) := by decide +kernel
theorem dX8_isRight_28 : decode cX8_isRight 28 = .ok (.ireturn, 1) := by decide +kernel
set_option maxRecDepth 20000 in
theorem ggX8_link_X8_isRight : GoodIn wsX8_link wsX8_isRight := goodIn_r _ [6, 7, 8, 5, 9, 10, 11, 12] (by decide +kernel) (by decide +kernel)
set_option maxRecDepth 20000 in
theorem gX8_link_X8_isRight : GoodIn wsX8_link (wsV RX8 109 RX8 yX8_isRight wsX8_isRight) := goodIn_app (goodIn_of _ (by decide +kernel)) ggX8_link_X8_isRight
set_option maxRecDepth 20000 in
theorem ggX8_link_X8_acts : GoodIn wsX8_link wsX8_acts := goodIn_r _ [16, 17, 18, 19, 1, 61, 62, 63, 64, 65, 66, 67, 68, 69, 70, 71, 72] (by decide +kernel) (by decide +kernel)
set_option maxRecDepth 20000 in
theorem gX8_link_X8_acts : GoodIn wsX8_link (wsV RX8 94 RX8 yX8_acts wsX8_acts) := goodIn_app (goodIn_of _ (by decide +kernel)) ggX8_link_X8_acts
set_option maxRecDepth 20000 in
theorem ggX8_link_X8_reads : GoodIn wsX8_link wsX8_reads := goodIn_r _ [23, 1, 24, 25, 26, 5, 27, 28, 29, 30, 31, 32, 33, 34, 35, 36, 37, 38, 39, 40, 41, 42, 43, 44, 45, 46, 47, 48, 49, 50, 51, 52, 53, 54, 55, 56, 57, 61, 62, 63, 64, 65, 66, 67, 68, 69, 70, 71, 72] (by decide +kernel) (by decide +kernel)
set_option maxRecDepth 20000 in
theorem gX8_link_X8_reads : GoodIn wsX8_link (wsV RX8 85 RX8 yX8_reads wsX8_reads) := goodIn_app (goodIn_of _ (by decide +kernel)) ggX8_link_X8_reads
set_option maxRecDepth 20000 in
theorem ggX8_link_X8_cell : GoodIn wsX8_link wsX8_cell := goodIn_r _ [30] (by decide +kernel) (by decide +kernel)
set_option maxRecDepth 20000 in
theorem gX8_link_X8_cell : GoodIn wsX8_link (va_wsS RX8 79 yX8_cell wsX8_cell) := goodIn_app (goodIn_of _ (by decide +kernel)) ggX8_link_X8_cell
set_option maxRecDepth 20000 in
theorem ggX8_link_X8_told : GoodIn wsX8_link wsX8_told := goodIn_r _ [60] (by decide +kernel) (by decide +kernel)
set_option maxRecDepth 20000 in
theorem gX8_link_X8_told : GoodIn wsX8_link (va_wsS RX8 112 yX8_told wsX8_told) := goodIn_app (goodIn_of _ (by decide +kernel)) ggX8_link_X8_told
theorem dX8_link_0 : decode cX8_link 0 = .ok (.aload_n 0, 1) := by decide +kernel
theorem dX8_link_1 : decode cX8_link 1 = .ok (.iload_n 1, 1) := by decide +kernel
theorem dX8_link_2 : decode cX8_link 2 = .ok (.iload_n 2, 1) := by decide +kernel
theorem dX8_link_3 : decode cX8_link 3 = .ok (.iload_n 3, 1) := by decide +kernel
theorem dX8_link_4 : decode cX8_link 4 = .ok (.invokevirtual 109, 3) := by decide +kernel
theorem dX8_link_7 : decode cX8_link 7 = .ok (.ifCond .ne 5, 3) := by decide +kernel
theorem dX8_link_10 : decode cX8_link 10 = .ok (.iconst (-1), 1) := by decide +kernel
theorem dX8_link_11 : decode cX8_link 11 = .ok (.ireturn, 1) := by decide +kernel
theorem dX8_link_12 : decode cX8_link 12 = .ok (.aload_n 0, 1) := by decide +kernel
theorem dX8_link_13 : decode cX8_link 13 = .ok (.getfield 7, 3) := by decide +kernel
theorem dX8_link_16 : decode cX8_link 16 = .ok (.bipush 9, 2) := by decide +kernel
theorem dX8_link_18 : decode cX8_link 18 = .ok (.iload_n 1, 1) := by decide +kernel
theorem dX8_link_19 : decode cX8_link 19 = .ok (.iadd, 1) := by decide +kernel
theorem dX8_link_20 : decode cX8_link 20 = .ok (.iaload, 1) := by decide +kernel
theorem dX8_link_21 : decode cX8_link 21 = .ok (.bipush (-9), 2) := by decide +kernel
theorem dX8_link_23 : decode cX8_link 23 = .ok (.if_icmp .ne 6, 3) := by decide +kernel
theorem dX8_link_26 : decode cX8_link 26 = .ok (.bipush (-2), 2) := by decide +kernel
theorem dX8_link_28 : decode cX8_link 28 = .ok (.ireturn, 1) := by decide +kernel
theorem dX8_link_29 : decode cX8_link 29 = .ok (.aload_n 0, 1) := by decide +kernel
theorem dX8_link_30 : decode cX8_link 30 = .ok (.invokevirtual 94, 3) := by decide +kernel
theorem dX8_link_33 : decode cX8_link 33 = .ok (.aload_n 0, 1) := by decide +kernel
theorem dX8_link_34 : decode cX8_link 34 = .ok (.bipush 9, 2) := by decide +kernel
theorem dX8_link_36 : decode cX8_link 36 = .ok (.iload_n 1, 1) := by decide +kernel
theorem dX8_link_37 : decode cX8_link 37 = .ok (.iadd, 1) := by decide +kernel
theorem dX8_link_38 : decode cX8_link 38 = .ok (.invokevirtual 85, 3) := by decide +kernel
theorem dX8_link_41 : decode cX8_link 41 = .ok (.aload_n 0, 1) := by decide +kernel
theorem dX8_link_42 : decode cX8_link 42 = .ok (.bipush 9, 2) := by decide +kernel
theorem dX8_link_44 : decode cX8_link 44 = .ok (.iload_n 3, 1) := by decide +kernel
theorem dX8_link_45 : decode cX8_link 45 = .ok (.iadd, 1) := by decide +kernel
theorem dX8_link_46 : decode cX8_link 46 = .ok (.invokevirtual 85, 3) := by decide +kernel
theorem dX8_link_49 : decode cX8_link 49 = .ok (.aload_n 0, 1) := by decide +kernel
theorem dX8_link_50 : decode cX8_link 50 = .ok (.getfield 7, 3) := by decide +kernel
theorem dX8_link_53 : decode cX8_link 53 = .ok (.sipush 185, 3) := by decide +kernel
theorem dX8_link_56 : decode cX8_link 56 = .ok (.iconst 5, 1) := by decide +kernel
theorem dX8_link_57 : decode cX8_link 57 = .ok (.aload_n 0, 1) := by decide +kernel
theorem dX8_link_58 : decode cX8_link 58 = .ok (.getfield 7, 3) := by decide +kernel
theorem dX8_link_61 : decode cX8_link 61 = .ok (.bipush 9, 2) := by decide +kernel
theorem dX8_link_63 : decode cX8_link 63 = .ok (.iload_n 1, 1) := by decide +kernel
theorem dX8_link_64 : decode cX8_link 64 = .ok (.iadd, 1) := by decide +kernel
theorem dX8_link_65 : decode cX8_link 65 = .ok (.iaload, 1) := by decide +kernel
theorem dX8_link_66 : decode cX8_link 66 = .ok (.invokestatic 79, 3) := by decide +kernel
theorem dX8_link_69 : decode cX8_link 69 = .ok (.imul, 1) := by decide +kernel
theorem dX8_link_70 : decode cX8_link 70 = .ok (.iadd, 1) := by decide +kernel
theorem dX8_link_71 : decode cX8_link 71 = .ok (.iconst 1, 1) := by decide +kernel
theorem dX8_link_72 : decode cX8_link 72 = .ok (.iadd, 1) := by decide +kernel
theorem dX8_link_73 : decode cX8_link 73 = .ok (.iload_n 2, 1) := by decide +kernel
theorem dX8_link_74 : decode cX8_link 74 = .ok (.iadd, 1) := by decide +kernel
theorem dX8_link_75 : decode cX8_link 75 = .ok (.aload_n 0, 1) := by decide +kernel
theorem dX8_link_76 : decode cX8_link 76 = .ok (.getfield 7, 3) := by decide +kernel
theorem dX8_link_79 : decode cX8_link 79 = .ok (.bipush 9, 2) := by decide +kernel
theorem dX8_link_81 : decode cX8_link 81 = .ok (.iload_n 3, 1) := by decide +kernel
theorem dX8_link_82 : decode cX8_link 82 = .ok (.iadd, 1) := by decide +kernel
theorem dX8_link_83 : decode cX8_link 83 = .ok (.iaload, 1) := by decide +kernel
theorem dX8_link_84 : decode cX8_link 84 = .ok (.iastore, 1) := by decide +kernel
theorem dX8_link_85 : decode cX8_link 85 = .ok (.aload_n 0, 1) := by decide +kernel
theorem dX8_link_86 : decode cX8_link 86 = .ok (.getfield 7, 3) := by decide +kernel
theorem dX8_link_89 : decode cX8_link 89 = .ok (.bipush 9, 2) := by decide +kernel
theorem dX8_link_91 : decode cX8_link 91 = .ok (.iload_n 3, 1) := by decide +kernel
theorem dX8_link_92 : decode cX8_link 92 = .ok (.iadd, 1) := by decide +kernel
theorem dX8_link_93 : decode cX8_link 93 = .ok (.iaload, 1) := by decide +kernel
theorem dX8_link_94 : decode cX8_link 94 = .ok (.invokestatic 112, 3) := by decide +kernel
theorem dX8_link_97 : decode cX8_link 97 = .ok (.ireturn, 1) := by decide +kernel
set_option maxRecDepth 20000 in
theorem ggX8_follow_X8_isRight : GoodIn wsX8_follow wsX8_isRight := goodIn_r _ [6, 7, 8, 5, 9, 10, 11, 12] (by decide +kernel) (by decide +kernel)
set_option maxRecDepth 20000 in
theorem gX8_follow_X8_isRight : GoodIn wsX8_follow (wsV RX8 109 RX8 yX8_isRight wsX8_isRight) := goodIn_app (goodIn_of _ (by decide +kernel)) ggX8_follow_X8_isRight
set_option maxRecDepth 20000 in
theorem ggX8_follow_X8_acts : GoodIn wsX8_follow wsX8_acts := goodIn_r _ [16, 17, 18, 19, 1, 61, 62, 63, 64, 65, 66, 67, 68, 69, 70, 71, 72] (by decide +kernel) (by decide +kernel)
set_option maxRecDepth 20000 in
theorem gX8_follow_X8_acts : GoodIn wsX8_follow (wsV RX8 94 RX8 yX8_acts wsX8_acts) := goodIn_app (goodIn_of _ (by decide +kernel)) ggX8_follow_X8_acts
set_option maxRecDepth 20000 in
theorem ggX8_follow_X8_reads : GoodIn wsX8_follow wsX8_reads := goodIn_r _ [23, 1, 24, 25, 26, 5, 27, 28, 29, 30, 31, 32, 33, 34, 35, 36, 37, 38, 39, 40, 41, 42, 43, 44, 45, 46, 47, 48, 49, 50, 51, 52, 53, 54, 55, 56, 57, 61, 62, 63, 64, 65, 66, 67, 68, 69, 70, 71, 72] (by decide +kernel) (by decide +kernel)
set_option maxRecDepth 20000 in
theorem gX8_follow_X8_reads : GoodIn wsX8_follow (wsV RX8 85 RX8 yX8_reads wsX8_reads) := goodIn_app (goodIn_of _ (by decide +kernel)) ggX8_follow_X8_reads
set_option maxRecDepth 20000 in
theorem ggX8_follow_X8_cell : GoodIn wsX8_follow wsX8_cell := goodIn_r _ [30] (by decide +kernel) (by decide +kernel)
set_option maxRecDepth 20000 in
theorem gX8_follow_X8_cell : GoodIn wsX8_follow (va_wsS RX8 79 yX8_cell wsX8_cell) := goodIn_app (goodIn_of _ (by decide +kernel)) ggX8_follow_X8_cell
set_option maxRecDepth 20000 in
theorem ggX8_follow_X8_told : GoodIn wsX8_follow wsX8_told := goodIn_r _ [60] (by decide +kernel) (by decide +kernel)
set_option maxRecDepth 20000 in
theorem gX8_follow_X8_told : GoodIn wsX8_follow (va_wsS RX8 112 yX8_told wsX8_told) := goodIn_app (goodIn_of _ (by decide +kernel)) ggX8_follow_X8_told
theorem dX8_follow_0 : decode cX8_follow 0 = .ok (.aload_n 0, 1) := by decide +kernel
theorem dX8_follow_1 : decode cX8_follow 1 = .ok (.iload_n 1, 1) := by decide +kernel
theorem dX8_follow_2 : decode cX8_follow 2 = .ok (.iload_n 2, 1) := by decide +kernel
theorem dX8_follow_3 : decode cX8_follow 3 = .ok (.iload_n 3, 1) := by decide +kernel
theorem dX8_follow_4 : decode cX8_follow 4 = .ok (.invokevirtual 109, 3) := by decide +kernel
theorem dX8_follow_7 : decode cX8_follow 7 = .ok (.ifCond .ne 5, 3) := by decide +kernel
theorem dX8_follow_10 : decode cX8_follow 10 = .ok (.iconst (-1), 1) := by decide +kernel
theorem dX8_follow_11 : decode cX8_follow 11 = .ok (.ireturn, 1) := by decide +kernel
theorem dX8_follow_12 : decode cX8_follow 12 = .ok (.aload_n 0, 1) := by decide +kernel
theorem dX8_follow_13 : decode cX8_follow 13 = .ok (.getfield 7, 3) := by decide +kernel
theorem dX8_follow_16 : decode cX8_follow 16 = .ok (.bipush 9, 2) := by decide +kernel
theorem dX8_follow_18 : decode cX8_follow 18 = .ok (.iload_n 1, 1) := by decide +kernel
theorem dX8_follow_19 : decode cX8_follow 19 = .ok (.iadd, 1) := by decide +kernel
theorem dX8_follow_20 : decode cX8_follow 20 = .ok (.iaload, 1) := by decide +kernel
theorem dX8_follow_21 : decode cX8_follow 21 = .ok (.bipush (-9), 2) := by decide +kernel
theorem dX8_follow_23 : decode cX8_follow 23 = .ok (.if_icmp .ne 6, 3) := by decide +kernel
theorem dX8_follow_26 : decode cX8_follow 26 = .ok (.bipush (-2), 2) := by decide +kernel
theorem dX8_follow_28 : decode cX8_follow 28 = .ok (.ireturn, 1) := by decide +kernel
theorem dX8_follow_29 : decode cX8_follow 29 = .ok (.aload_n 0, 1) := by decide +kernel
theorem dX8_follow_30 : decode cX8_follow 30 = .ok (.invokevirtual 94, 3) := by decide +kernel
theorem dX8_follow_33 : decode cX8_follow 33 = .ok (.aload_n 0, 1) := by decide +kernel
theorem dX8_follow_34 : decode cX8_follow 34 = .ok (.bipush 9, 2) := by decide +kernel
theorem dX8_follow_36 : decode cX8_follow 36 = .ok (.iload_n 1, 1) := by decide +kernel
theorem dX8_follow_37 : decode cX8_follow 37 = .ok (.iadd, 1) := by decide +kernel
theorem dX8_follow_38 : decode cX8_follow 38 = .ok (.invokevirtual 85, 3) := by decide +kernel
theorem dX8_follow_41 : decode cX8_follow 41 = .ok (.sipush 185, 3) := by decide +kernel
theorem dX8_follow_44 : decode cX8_follow 44 = .ok (.iconst 5, 1) := by decide +kernel
theorem dX8_follow_45 : decode cX8_follow 45 = .ok (.aload_n 0, 1) := by decide +kernel
theorem dX8_follow_46 : decode cX8_follow 46 = .ok (.getfield 7, 3) := by decide +kernel
theorem dX8_follow_49 : decode cX8_follow 49 = .ok (.bipush 9, 2) := by decide +kernel
theorem dX8_follow_51 : decode cX8_follow 51 = .ok (.iload_n 1, 1) := by decide +kernel
theorem dX8_follow_52 : decode cX8_follow 52 = .ok (.iadd, 1) := by decide +kernel
theorem dX8_follow_53 : decode cX8_follow 53 = .ok (.iaload, 1) := by decide +kernel
theorem dX8_follow_54 : decode cX8_follow 54 = .ok (.invokestatic 79, 3) := by decide +kernel
theorem dX8_follow_57 : decode cX8_follow 57 = .ok (.imul, 1) := by decide +kernel
theorem dX8_follow_58 : decode cX8_follow 58 = .ok (.iadd, 1) := by decide +kernel
theorem dX8_follow_59 : decode cX8_follow 59 = .ok (.iconst 1, 1) := by decide +kernel
theorem dX8_follow_60 : decode cX8_follow 60 = .ok (.iadd, 1) := by decide +kernel
theorem dX8_follow_61 : decode cX8_follow 61 = .ok (.iload_n 2, 1) := by decide +kernel
theorem dX8_follow_62 : decode cX8_follow 62 = .ok (.iadd, 1) := by decide +kernel
theorem dX8_follow_63 : decode cX8_follow 63 = .ok (.istore 4, 2) := by decide +kernel
theorem dX8_follow_65 : decode cX8_follow 65 = .ok (.aload_n 0, 1) := by decide +kernel
theorem dX8_follow_66 : decode cX8_follow 66 = .ok (.iload 4, 2) := by decide +kernel
theorem dX8_follow_68 : decode cX8_follow 68 = .ok (.invokevirtual 85, 3) := by decide +kernel
theorem dX8_follow_71 : decode cX8_follow 71 = .ok (.aload_n 0, 1) := by decide +kernel
theorem dX8_follow_72 : decode cX8_follow 72 = .ok (.getfield 7, 3) := by decide +kernel
theorem dX8_follow_75 : decode cX8_follow 75 = .ok (.bipush 9, 2) := by decide +kernel
theorem dX8_follow_77 : decode cX8_follow 77 = .ok (.iload_n 3, 1) := by decide +kernel
theorem dX8_follow_78 : decode cX8_follow 78 = .ok (.iadd, 1) := by decide +kernel
theorem dX8_follow_79 : decode cX8_follow 79 = .ok (.aload_n 0, 1) := by decide +kernel
theorem dX8_follow_80 : decode cX8_follow 80 = .ok (.getfield 7, 3) := by decide +kernel
theorem dX8_follow_83 : decode cX8_follow 83 = .ok (.iload 4, 2) := by decide +kernel
theorem dX8_follow_85 : decode cX8_follow 85 = .ok (.iaload, 1) := by decide +kernel
theorem dX8_follow_86 : decode cX8_follow 86 = .ok (.iastore, 1) := by decide +kernel
theorem dX8_follow_87 : decode cX8_follow 87 = .ok (.aload_n 0, 1) := by decide +kernel
theorem dX8_follow_88 : decode cX8_follow 88 = .ok (.getfield 7, 3) := by decide +kernel
theorem dX8_follow_91 : decode cX8_follow 91 = .ok (.iload 4, 2) := by decide +kernel
theorem dX8_follow_93 : decode cX8_follow 93 = .ok (.iaload, 1) := by decide +kernel
theorem dX8_follow_94 : decode cX8_follow 94 = .ok (.invokestatic 112, 3) := by decide +kernel
theorem dX8_follow_97 : decode cX8_follow 97 = .ok (.ireturn, 1) := by decide +kernel
set_option maxRecDepth 20000 in
theorem ggX8_drop_X8_isHook : GoodIn wsX8_drop wsX8_isHook := goodIn_r _ [5, 6, 7, 4, 8] (by decide +kernel) (by decide +kernel)
set_option maxRecDepth 20000 in
theorem gX8_drop_X8_isHook : GoodIn wsX8_drop (va_wsS RX8 97 yX8_isHook wsX8_isHook) := goodIn_app (goodIn_of _ (by decide +kernel)) ggX8_drop_X8_isHook
set_option maxRecDepth 20000 in
theorem ggX8_drop_X8_acts : GoodIn wsX8_drop wsX8_acts := goodIn_r _ [12, 13, 14, 15, 1, 19, 20, 21, 22, 23, 24, 25, 26, 27, 28, 29, 30] (by decide +kernel) (by decide +kernel)
set_option maxRecDepth 20000 in
theorem gX8_drop_X8_acts : GoodIn wsX8_drop (wsV RX8 94 RX8 yX8_acts wsX8_acts) := goodIn_app (goodIn_of _ (by decide +kernel)) ggX8_drop_X8_acts
set_option maxRecDepth 20000 in
theorem ggX8_drop_X8_told : GoodIn wsX8_drop wsX8_told := goodIn_r _ [18] (by decide +kernel) (by decide +kernel)
set_option maxRecDepth 20000 in
theorem gX8_drop_X8_told : GoodIn wsX8_drop (va_wsS RX8 112 yX8_told wsX8_told) := goodIn_app (goodIn_of _ (by decide +kernel)) ggX8_drop_X8_told
theorem dX8_drop_0 : decode cX8_drop 0 = .ok (.iload_n 1, 1) := by decide +kernel
theorem dX8_drop_1 : decode cX8_drop 1 = .ok (.invokestatic 97, 3) := by decide +kernel
theorem dX8_drop_4 : decode cX8_drop 4 = .ok (.ifCond .ne 5, 3) := by decide +kernel
theorem dX8_drop_7 : decode cX8_drop 7 = .ok (.iconst (-1), 1) := by decide +kernel
theorem dX8_drop_8 : decode cX8_drop 8 = .ok (.ireturn, 1) := by decide +kernel
theorem dX8_drop_9 : decode cX8_drop 9 = .ok (.aload_n 0, 1) := by decide +kernel
theorem dX8_drop_10 : decode cX8_drop 10 = .ok (.invokevirtual 94, 3) := by decide +kernel
theorem dX8_drop_13 : decode cX8_drop 13 = .ok (.aload_n 0, 1) := by decide +kernel
theorem dX8_drop_14 : decode cX8_drop 14 = .ok (.getfield 7, 3) := by decide +kernel
theorem dX8_drop_17 : decode cX8_drop 17 = .ok (.bipush 9, 2) := by decide +kernel
theorem dX8_drop_19 : decode cX8_drop 19 = .ok (.iload_n 1, 1) := by decide +kernel
theorem dX8_drop_20 : decode cX8_drop 20 = .ok (.iadd, 1) := by decide +kernel
theorem dX8_drop_21 : decode cX8_drop 21 = .ok (.iaload, 1) := by decide +kernel
theorem dX8_drop_22 : decode cX8_drop 22 = .ok (.istore_n 2, 1) := by decide +kernel
theorem dX8_drop_23 : decode cX8_drop 23 = .ok (.aload_n 0, 1) := by decide +kernel
theorem dX8_drop_24 : decode cX8_drop 24 = .ok (.getfield 7, 3) := by decide +kernel
theorem dX8_drop_27 : decode cX8_drop 27 = .ok (.bipush 9, 2) := by decide +kernel
theorem dX8_drop_29 : decode cX8_drop 29 = .ok (.iload_n 1, 1) := by decide +kernel
theorem dX8_drop_30 : decode cX8_drop 30 = .ok (.iadd, 1) := by decide +kernel
theorem dX8_drop_31 : decode cX8_drop 31 = .ok (.bipush (-9), 2) := by decide +kernel
theorem dX8_drop_33 : decode cX8_drop 33 = .ok (.iastore, 1) := by decide +kernel
theorem dX8_drop_34 : decode cX8_drop 34 = .ok (.iload_n 2, 1) := by decide +kernel
theorem dX8_drop_35 : decode cX8_drop 35 = .ok (.invokestatic 112, 3) := by decide +kernel
theorem dX8_drop_38 : decode cX8_drop 38 = .ok (.ireturn, 1) := by decide +kernel
set_option maxRecDepth 20000 in
theorem ggX8_begin_X8_isMoving : GoodIn wsX8_begin wsX8_isMoving := goodIn_r _ [6, 1, 56, 57, 58, 59, 60, 61, 62, 63, 64, 65, 66, 67] (by decide +kernel) (by decide +kernel)
set_option maxRecDepth 20000 in
theorem gX8_begin_X8_isMoving : GoodIn wsX8_begin (wsV RX8 56 RX8 yX8_isMoving wsX8_isMoving) := goodIn_app (goodIn_of _ (by decide +kernel)) ggX8_begin_X8_isMoving
set_option maxRecDepth 20000 in
theorem ggX8_begin_X8_acts : GoodIn wsX8_begin wsX8_acts := goodIn_r _ [10, 11, 12, 13, 1, 56, 57, 58, 59, 60, 61, 62, 63, 64, 65, 66, 67] (by decide +kernel) (by decide +kernel)
set_option maxRecDepth 20000 in
theorem gX8_begin_X8_acts : GoodIn wsX8_begin (wsV RX8 94 RX8 yX8_acts wsX8_acts) := goodIn_app (goodIn_of _ (by decide +kernel)) ggX8_begin_X8_acts
set_option maxRecDepth 20000 in
theorem ggX8_begin_X8_begins : GoodIn wsX8_begin wsX8_begins := goodIn_r _ [17, 1, 18, 19, 20, 5, 21, 22, 23, 24, 25, 2, 3, 4, 6, 26, 27, 28, 29, 30, 31, 32, 33, 34, 35, 36, 37, 38, 39, 40, 41, 42, 43, 44, 45, 46, 47, 48, 49, 50, 51, 52, 53, 54, 55, 56, 57, 58, 59, 60, 61, 62, 63, 64, 65, 66, 67] (by decide +kernel) (by decide +kernel)
set_option maxRecDepth 20000 in
theorem gX8_begin_X8_begins : GoodIn wsX8_begin (wsV RX8 115 RX8 yX8_begins wsX8_begins) := goodIn_app (goodIn_of _ (by decide +kernel)) ggX8_begin_X8_begins
theorem dX8_begin_0 : decode cX8_begin 0 = .ok (.aload_n 0, 1) := by decide +kernel
theorem dX8_begin_1 : decode cX8_begin 1 = .ok (.invokevirtual 56, 3) := by decide +kernel
theorem dX8_begin_4 : decode cX8_begin 4 = .ok (.ifCond .eq 6, 3) := by decide +kernel
theorem dX8_begin_7 : decode cX8_begin 7 = .ok (.bipush (-2), 2) := by decide +kernel
theorem dX8_begin_9 : decode cX8_begin 9 = .ok (.ireturn, 1) := by decide +kernel
theorem dX8_begin_10 : decode cX8_begin 10 = .ok (.aload_n 0, 1) := by decide +kernel
theorem dX8_begin_11 : decode cX8_begin 11 = .ok (.invokevirtual 94, 3) := by decide +kernel
theorem dX8_begin_14 : decode cX8_begin 14 = .ok (.aload_n 0, 1) := by decide +kernel
theorem dX8_begin_15 : decode cX8_begin 15 = .ok (.invokevirtual 115, 3) := by decide +kernel
theorem dX8_begin_18 : decode cX8_begin 18 = .ok (.aload_n 0, 1) := by decide +kernel
theorem dX8_begin_19 : decode cX8_begin 19 = .ok (.getfield 7, 3) := by decide +kernel
theorem dX8_begin_22 : decode cX8_begin 22 = .ok (.bipush 8, 2) := by decide +kernel
theorem dX8_begin_24 : decode cX8_begin 24 = .ok (.iaload, 1) := by decide +kernel
theorem dX8_begin_25 : decode cX8_begin 25 = .ok (.ireturn, 1) := by decide +kernel
set_option maxRecDepth 20000 in
theorem ggX8_carry_X8_in : GoodIn wsX8_carry wsX8_in := goodIn_r _ [4] (by decide +kernel) (by decide +kernel)
set_option maxRecDepth 20000 in
theorem gX8_carry_X8_in : GoodIn wsX8_carry (va_wsS RX8 40 yX8_in wsX8_in) := goodIn_app (goodIn_of _ (by decide +kernel)) ggX8_carry_X8_in
set_option maxRecDepth 20000 in
theorem ggX8_carry_X8_isMoving : GoodIn wsX8_carry wsX8_isMoving := goodIn_r _ [8, 9, 59, 60, 61, 62, 63, 64, 65, 66, 67, 68, 69, 70] (by decide +kernel) (by decide +kernel)
set_option maxRecDepth 20000 in
theorem gX8_carry_X8_isMoving : GoodIn wsX8_carry (wsV RX8 56 RX8 yX8_isMoving wsX8_isMoving) := goodIn_app (goodIn_of _ (by decide +kernel)) ggX8_carry_X8_isMoving
set_option maxRecDepth 20000 in
theorem ggX8_carry_X8_acts : GoodIn wsX8_carry wsX8_acts := goodIn_r _ [13, 14, 15, 16, 9, 59, 60, 61, 62, 63, 64, 65, 66, 67, 68, 69, 70] (by decide +kernel) (by decide +kernel)
set_option maxRecDepth 20000 in
theorem gX8_carry_X8_acts : GoodIn wsX8_carry (wsV RX8 94 RX8 yX8_acts wsX8_acts) := goodIn_app (goodIn_of _ (by decide +kernel)) ggX8_carry_X8_acts
set_option maxRecDepth 20000 in
theorem ggX8_carry_X8_steps : GoodIn wsX8_carry wsX8_steps := goodIn_r _ [20, 9, 21, 22, 23, 3, 24, 5, 6, 7, 8, 25, 26, 27, 28, 29, 30, 31, 32, 33, 34, 35, 36, 37, 38, 39, 40, 41, 42, 43, 44, 45, 46, 47, 48, 49, 50, 51, 52, 53, 54, 55, 56, 57, 58, 59, 60, 61, 62, 63, 64, 65, 66, 67, 68, 69, 70] (by decide +kernel) (by decide +kernel)
set_option maxRecDepth 20000 in
theorem gX8_carry_X8_steps : GoodIn wsX8_carry (wsV RX8 91 RX8 yX8_steps wsX8_steps) := goodIn_app (goodIn_of _ (by decide +kernel)) ggX8_carry_X8_steps
theorem dX8_carry_0 : decode cX8_carry 0 = .ok (.iload_n 1, 1) := by decide +kernel
theorem dX8_carry_1 : decode cX8_carry 1 = .ok (.iconst 1, 1) := by decide +kernel
theorem dX8_carry_2 : decode cX8_carry 2 = .ok (.bipush 99, 2) := by decide +kernel
theorem dX8_carry_4 : decode cX8_carry 4 = .ok (.invokestatic 40, 3) := by decide +kernel
theorem dX8_carry_7 : decode cX8_carry 7 = .ok (.ifCond .ne 5, 3) := by decide +kernel
theorem dX8_carry_10 : decode cX8_carry 10 = .ok (.iconst (-1), 1) := by decide +kernel
theorem dX8_carry_11 : decode cX8_carry 11 = .ok (.ireturn, 1) := by decide +kernel
theorem dX8_carry_12 : decode cX8_carry 12 = .ok (.aload_n 0, 1) := by decide +kernel
theorem dX8_carry_13 : decode cX8_carry 13 = .ok (.invokevirtual 56, 3) := by decide +kernel
theorem dX8_carry_16 : decode cX8_carry 16 = .ok (.ifCond .ne 6, 3) := by decide +kernel
theorem dX8_carry_19 : decode cX8_carry 19 = .ok (.bipush (-2), 2) := by decide +kernel
theorem dX8_carry_21 : decode cX8_carry 21 = .ok (.ireturn, 1) := by decide +kernel
theorem dX8_carry_22 : decode cX8_carry 22 = .ok (.aload_n 0, 1) := by decide +kernel
theorem dX8_carry_23 : decode cX8_carry 23 = .ok (.invokevirtual 94, 3) := by decide +kernel
theorem dX8_carry_26 : decode cX8_carry 26 = .ok (.iconst 0, 1) := by decide +kernel
theorem dX8_carry_27 : decode cX8_carry 27 = .ok (.istore_n 2, 1) := by decide +kernel
theorem dX8_carry_28 : decode cX8_carry 28 = .ok (.aload_n 0, 1) := by decide +kernel
theorem dX8_carry_29 : decode cX8_carry 29 = .ok (.invokevirtual 56, 3) := by decide +kernel
theorem dX8_carry_32 : decode cX8_carry 32 = .ok (.ifCond .eq 18, 3) := by decide +kernel
theorem dX8_carry_35 : decode cX8_carry 35 = .ok (.iload_n 2, 1) := by decide +kernel
theorem dX8_carry_36 : decode cX8_carry 36 = .ok (.iload_n 1, 1) := by decide +kernel
theorem dX8_carry_37 : decode cX8_carry 37 = .ok (.if_icmp .ge 13, 3) := by decide +kernel
theorem dX8_carry_40 : decode cX8_carry 40 = .ok (.aload_n 0, 1) := by decide +kernel
theorem dX8_carry_41 : decode cX8_carry 41 = .ok (.invokevirtual 91, 3) := by decide +kernel
theorem dX8_carry_44 : decode cX8_carry 44 = .ok (.iinc 2 1, 3) := by decide +kernel
theorem dX8_carry_47 : decode cX8_carry 47 = .ok (.goto (-19), 3) := by decide +kernel
theorem dX8_carry_50 : decode cX8_carry 50 = .ok (.iload_n 2, 1) := by decide +kernel
theorem dX8_carry_51 : decode cX8_carry 51 = .ok (.ireturn, 1) := by decide +kernel
set_option maxRecDepth 20000 in
theorem ggX8_noted_X8_old : GoodIn wsX8_noted wsX8_old := goodIn_r _ [5, 6, 11, 12, 13, 14, 15, 16, 17, 18, 19, 20, 21, 22] (by decide +kernel) (by decide +kernel)
set_option maxRecDepth 20000 in
theorem gX8_noted_X8_old : GoodIn wsX8_noted (wsV RX8 52 RX8 yX8_old wsX8_old) := goodIn_app (goodIn_of _ (by decide +kernel)) ggX8_noted_X8_old
set_option maxRecDepth 20000 in
theorem ggX8_noted_X8_ofCopy : GoodIn wsX8_noted wsX8_ofCopy := goodIn_r _ [10, 6, 11, 12, 13, 14, 15, 16, 17, 18, 19, 20, 21, 22] (by decide +kernel) (by decide +kernel)
set_option maxRecDepth 20000 in
theorem gX8_noted_X8_ofCopy : GoodIn wsX8_noted (wsV RX8 44 RX8 yX8_ofCopy wsX8_ofCopy) := goodIn_app (goodIn_of _ (by decide +kernel)) ggX8_noted_X8_ofCopy
theorem dX8_noted_0 : decode cX8_noted 0 = .ok (.bipush (-9), 2) := by decide +kernel
theorem dX8_noted_2 : decode cX8_noted 2 = .ok (.istore_n 2, 1) := by decide +kernel
theorem dX8_noted_3 : decode cX8_noted 3 = .ok (.bipush 63, 2) := by decide +kernel
theorem dX8_noted_5 : decode cX8_noted 5 = .ok (.istore_n 3, 1) := by decide +kernel
theorem dX8_noted_6 : decode cX8_noted 6 = .ok (.iload_n 3, 1) := by decide +kernel
theorem dX8_noted_7 : decode cX8_noted 7 = .ok (.ifCond .lt 52, 3) := by decide +kernel
theorem dX8_noted_10 : decode cX8_noted 10 = .ok (.bipush 64, 2) := by decide +kernel
theorem dX8_noted_12 : decode cX8_noted 12 = .ok (.aload_n 0, 1) := by decide +kernel
theorem dX8_noted_13 : decode cX8_noted 13 = .ok (.invokevirtual 52, 3) := by decide +kernel
theorem dX8_noted_16 : decode cX8_noted 16 = .ok (.imul, 1) := by decide +kernel
theorem dX8_noted_17 : decode cX8_noted 17 = .ok (.iload_n 3, 1) := by decide +kernel
theorem dX8_noted_18 : decode cX8_noted 18 = .ok (.iadd, 1) := by decide +kernel
theorem dX8_noted_19 : decode cX8_noted 19 = .ok (.istore 4, 2) := by decide +kernel
theorem dX8_noted_21 : decode cX8_noted 21 = .ok (.aload_n 0, 1) := by decide +kernel
theorem dX8_noted_22 : decode cX8_noted 22 = .ok (.iload 4, 2) := by decide +kernel
theorem dX8_noted_24 : decode cX8_noted 24 = .ok (.iconst 0, 1) := by decide +kernel
theorem dX8_noted_25 : decode cX8_noted 25 = .ok (.invokevirtual 44, 3) := by decide +kernel
theorem dX8_noted_28 : decode cX8_noted 28 = .ok (.iload_n 1, 1) := by decide +kernel
theorem dX8_noted_29 : decode cX8_noted 29 = .ok (.iconst 1, 1) := by decide +kernel
theorem dX8_noted_30 : decode cX8_noted 30 = .ok (.iadd, 1) := by decide +kernel
theorem dX8_noted_31 : decode cX8_noted 31 = .ok (.if_icmp .ne 20, 3) := by decide +kernel
theorem dX8_noted_34 : decode cX8_noted 34 = .ok (.aload_n 0, 1) := by decide +kernel
theorem dX8_noted_35 : decode cX8_noted 35 = .ok (.iload 4, 2) := by decide +kernel
theorem dX8_noted_37 : decode cX8_noted 37 = .ok (.iconst 3, 1) := by decide +kernel
theorem dX8_noted_38 : decode cX8_noted 38 = .ok (.invokevirtual 44, 3) := by decide +kernel
theorem dX8_noted_41 : decode cX8_noted 41 = .ok (.bipush (-9), 2) := by decide +kernel
theorem dX8_noted_43 : decode cX8_noted 43 = .ok (.if_icmp .eq 8, 3) := by decide +kernel
theorem dX8_noted_46 : decode cX8_noted 46 = .ok (.iload 4, 2) := by decide +kernel
theorem dX8_noted_48 : decode cX8_noted 48 = .ok (.goto 4, 3) := by decide +kernel
theorem dX8_noted_51 : decode cX8_noted 51 = .ok (.iload_n 2, 1) := by decide +kernel
theorem dX8_noted_52 : decode cX8_noted 52 = .ok (.istore_n 2, 1) := by decide +kernel
theorem dX8_noted_53 : decode cX8_noted 53 = .ok (.iinc 3 (-1), 3) := by decide +kernel
theorem dX8_noted_56 : decode cX8_noted 56 = .ok (.goto (-50), 3) := by decide +kernel
theorem dX8_noted_59 : decode cX8_noted 59 = .ok (.iload_n 2, 1) := by decide +kernel
theorem dX8_noted_60 : decode cX8_noted 60 = .ok (.ireturn, 1) := by decide +kernel
set_option maxRecDepth 20000 in
theorem ggX8_lose_X8_isThing : GoodIn wsX8_lose wsX8_isThing := goodIn_r _ [6, 1, 49, 50, 51, 52, 53, 54, 55, 56, 57, 58, 59, 60] (by decide +kernel) (by decide +kernel)
set_option maxRecDepth 20000 in
theorem gX8_lose_X8_isThing : GoodIn wsX8_lose (wsV RX8 118 RX8 yX8_isThing wsX8_isThing) := goodIn_app (goodIn_of _ (by decide +kernel)) ggX8_lose_X8_isThing
set_option maxRecDepth 20000 in
theorem ggX8_lose_X8_isMoving : GoodIn wsX8_lose wsX8_isMoving := goodIn_r _ [10, 1, 49, 50, 51, 52, 53, 54, 55, 56, 57, 58, 59, 60] (by decide +kernel) (by decide +kernel)
set_option maxRecDepth 20000 in
theorem gX8_lose_X8_isMoving : GoodIn wsX8_lose (wsV RX8 56 RX8 yX8_isMoving wsX8_isMoving) := goodIn_app (goodIn_of _ (by decide +kernel)) ggX8_lose_X8_isMoving
set_option maxRecDepth 20000 in
theorem ggX8_lose_X8_noted : GoodIn wsX8_lose wsX8_noted := goodIn_r _ [14, 15, 16, 17, 5, 18, 1, 19, 20, 21, 22, 49, 50, 51, 52, 53, 54, 55, 56, 57, 58, 59, 60] (by decide +kernel) (by decide +kernel)
set_option maxRecDepth 20000 in
theorem gX8_lose_X8_noted : GoodIn wsX8_lose (wsV RX8 121 RX8 yX8_noted wsX8_noted) := goodIn_app (goodIn_of _ (by decide +kernel)) ggX8_lose_X8_noted
set_option maxRecDepth 20000 in
theorem ggX8_lose_X8_free : GoodIn wsX8_lose wsX8_free := goodIn_r _ [26, 1, 49, 50, 51, 52, 53, 54, 55, 56, 57, 58, 59, 60] (by decide +kernel) (by decide +kernel)
set_option maxRecDepth 20000 in
theorem gX8_lose_X8_free : GoodIn wsX8_lose (wsV RX8 103 RX8 yX8_free wsX8_free) := goodIn_app (goodIn_of _ (by decide +kernel)) ggX8_lose_X8_free
set_option maxRecDepth 20000 in
theorem ggX8_lose_X8_kept : GoodIn wsX8_lose wsX8_kept := goodIn_r _ [30, 15, 16, 17, 5, 18, 1, 7, 8, 9, 10, 31, 32, 33, 34, 19, 20, 21, 22, 35, 36, 37, 38, 49, 50, 51, 52, 53, 54, 55, 56, 57, 58, 59, 60] (by decide +kernel) (by decide +kernel)
set_option maxRecDepth 20000 in
theorem gX8_lose_X8_kept : GoodIn wsX8_lose (wsV RX8 106 RX8 yX8_kept wsX8_kept) := goodIn_app (goodIn_of _ (by decide +kernel)) ggX8_lose_X8_kept
set_option maxRecDepth 20000 in
theorem ggX8_lose_X8_acts : GoodIn wsX8_lose wsX8_acts := goodIn_r _ [42, 43, 44, 45, 1, 49, 50, 51, 52, 53, 54, 55, 56, 57, 58, 59, 60] (by decide +kernel) (by decide +kernel)
set_option maxRecDepth 20000 in
theorem gX8_lose_X8_acts : GoodIn wsX8_lose (wsV RX8 94 RX8 yX8_acts wsX8_acts) := goodIn_app (goodIn_of _ (by decide +kernel)) ggX8_lose_X8_acts
set_option maxRecDepth 20000 in
theorem ggX8_lose_X8_address : GoodIn wsX8_lose wsX8_address := goodIn_r _ [48] (by decide +kernel) (by decide +kernel)
set_option maxRecDepth 20000 in
theorem gX8_lose_X8_address : GoodIn wsX8_lose (va_wsS RX8 76 yX8_address wsX8_address) := goodIn_app (goodIn_of _ (by decide +kernel)) ggX8_lose_X8_address
theorem dX8_lose_0 : decode cX8_lose 0 = .ok (.aload_n 0, 1) := by decide +kernel
theorem dX8_lose_1 : decode cX8_lose 1 = .ok (.iload_n 1, 1) := by decide +kernel
theorem dX8_lose_2 : decode cX8_lose 2 = .ok (.invokevirtual 118, 3) := by decide +kernel
theorem dX8_lose_5 : decode cX8_lose 5 = .ok (.ifCond .ne 5, 3) := by decide +kernel
theorem dX8_lose_8 : decode cX8_lose 8 = .ok (.iconst (-1), 1) := by decide +kernel
theorem dX8_lose_9 : decode cX8_lose 9 = .ok (.ireturn, 1) := by decide +kernel
theorem dX8_lose_10 : decode cX8_lose 10 = .ok (.aload_n 0, 1) := by decide +kernel
theorem dX8_lose_11 : decode cX8_lose 11 = .ok (.invokevirtual 56, 3) := by decide +kernel
theorem dX8_lose_14 : decode cX8_lose 14 = .ok (.ifCond .eq 11, 3) := by decide +kernel
theorem dX8_lose_17 : decode cX8_lose 17 = .ok (.aload_n 0, 1) := by decide +kernel
theorem dX8_lose_18 : decode cX8_lose 18 = .ok (.iload_n 1, 1) := by decide +kernel
theorem dX8_lose_19 : decode cX8_lose 19 = .ok (.invokevirtual 121, 3) := by decide +kernel
theorem dX8_lose_22 : decode cX8_lose 22 = .ok (.goto 5, 3) := by decide +kernel
theorem dX8_lose_25 : decode cX8_lose 25 = .ok (.bipush (-9), 2) := by decide +kernel
theorem dX8_lose_27 : decode cX8_lose 27 = .ok (.istore_n 2, 1) := by decide +kernel
theorem dX8_lose_28 : decode cX8_lose 28 = .ok (.iload_n 2, 1) := by decide +kernel
theorem dX8_lose_29 : decode cX8_lose 29 = .ok (.bipush (-9), 2) := by decide +kernel
theorem dX8_lose_31 : decode cX8_lose 31 = .ok (.if_icmp .ne 6, 3) := by decide +kernel
theorem dX8_lose_34 : decode cX8_lose 34 = .ok (.bipush (-2), 2) := by decide +kernel
theorem dX8_lose_36 : decode cX8_lose 36 = .ok (.ireturn, 1) := by decide +kernel
theorem dX8_lose_37 : decode cX8_lose 37 = .ok (.aload_n 0, 1) := by decide +kernel
theorem dX8_lose_38 : decode cX8_lose 38 = .ok (.aload_n 0, 1) := by decide +kernel
theorem dX8_lose_39 : decode cX8_lose 39 = .ok (.getfield 7, 3) := by decide +kernel
theorem dX8_lose_42 : decode cX8_lose 42 = .ok (.iconst 3, 1) := by decide +kernel
theorem dX8_lose_43 : decode cX8_lose 43 = .ok (.iaload, 1) := by decide +kernel
theorem dX8_lose_44 : decode cX8_lose 44 = .ok (.invokevirtual 103, 3) := by decide +kernel
theorem dX8_lose_47 : decode cX8_lose 47 = .ok (.aload_n 0, 1) := by decide +kernel
theorem dX8_lose_48 : decode cX8_lose 48 = .ok (.invokevirtual 106, 3) := by decide +kernel
theorem dX8_lose_51 : decode cX8_lose 51 = .ok (.aload_n 0, 1) := by decide +kernel
theorem dX8_lose_52 : decode cX8_lose 52 = .ok (.getfield 7, 3) := by decide +kernel
theorem dX8_lose_55 : decode cX8_lose 55 = .ok (.bipush 17, 2) := by decide +kernel
theorem dX8_lose_57 : decode cX8_lose 57 = .ok (.iload_n 1, 1) := by decide +kernel
theorem dX8_lose_58 : decode cX8_lose 58 = .ok (.iadd, 1) := by decide +kernel
theorem dX8_lose_59 : decode cX8_lose 59 = .ok (.iaload, 1) := by decide +kernel
theorem dX8_lose_60 : decode cX8_lose 60 = .ok (.iadd, 1) := by decide +kernel
theorem dX8_lose_61 : decode cX8_lose 61 = .ok (.if_icmp .ge 6, 3) := by decide +kernel
theorem dX8_lose_64 : decode cX8_lose 64 = .ok (.bipush (-3), 2) := by decide +kernel
theorem dX8_lose_66 : decode cX8_lose 66 = .ok (.ireturn, 1) := by decide +kernel
theorem dX8_lose_67 : decode cX8_lose 67 = .ok (.aload_n 0, 1) := by decide +kernel
theorem dX8_lose_68 : decode cX8_lose 68 = .ok (.invokevirtual 94, 3) := by decide +kernel
theorem dX8_lose_71 : decode cX8_lose 71 = .ok (.aload_n 0, 1) := by decide +kernel
theorem dX8_lose_72 : decode cX8_lose 72 = .ok (.getfield 7, 3) := by decide +kernel
theorem dX8_lose_75 : decode cX8_lose 75 = .ok (.sipush 185, 3) := by decide +kernel
theorem dX8_lose_78 : decode cX8_lose 78 = .ok (.iconst 5, 1) := by decide +kernel
theorem dX8_lose_79 : decode cX8_lose 79 = .ok (.iload_n 2, 1) := by decide +kernel
theorem dX8_lose_80 : decode cX8_lose 80 = .ok (.imul, 1) := by decide +kernel
theorem dX8_lose_81 : decode cX8_lose 81 = .ok (.iadd, 1) := by decide +kernel
theorem dX8_lose_82 : decode cX8_lose 82 = .ok (.iconst 3, 1) := by decide +kernel
theorem dX8_lose_83 : decode cX8_lose 83 = .ok (.iadd, 1) := by decide +kernel
theorem dX8_lose_84 : decode cX8_lose 84 = .ok (.bipush (-9), 2) := by decide +kernel
theorem dX8_lose_86 : decode cX8_lose 86 = .ok (.iastore, 1) := by decide +kernel
theorem dX8_lose_87 : decode cX8_lose 87 = .ok (.aload_n 0, 1) := by decide +kernel
theorem dX8_lose_88 : decode cX8_lose 88 = .ok (.getfield 7, 3) := by decide +kernel
theorem dX8_lose_91 : decode cX8_lose 91 = .ok (.bipush 6, 2) := by decide +kernel
theorem dX8_lose_93 : decode cX8_lose 93 = .ok (.dup2, 1) := by decide +kernel
theorem dX8_lose_94 : decode cX8_lose 94 = .ok (.iaload, 1) := by decide +kernel
theorem dX8_lose_95 : decode cX8_lose 95 = .ok (.iconst 1, 1) := by decide +kernel
theorem dX8_lose_96 : decode cX8_lose 96 = .ok (.iadd, 1) := by decide +kernel
theorem dX8_lose_97 : decode cX8_lose 97 = .ok (.iastore, 1) := by decide +kernel
theorem dX8_lose_98 : decode cX8_lose 98 = .ok (.iload_n 2, 1) := by decide +kernel
theorem dX8_lose_99 : decode cX8_lose 99 = .ok (.invokestatic 76, 3) := by decide +kernel
theorem dX8_lose_102 : decode cX8_lose 102 = .ok (.ireturn, 1) := by decide +kernel
set_option maxRecDepth 20000 in
theorem ggX8_copies_X8_isMoving : GoodIn wsX8_copies wsX8_isMoving := goodIn_r _ [5, 6, 15, 16, 17, 18, 19, 20, 21, 22, 23, 24, 25, 26] (by decide +kernel) (by decide +kernel)
set_option maxRecDepth 20000 in
theorem gX8_copies_X8_isMoving : GoodIn wsX8_copies (wsV RX8 56 RX8 yX8_isMoving wsX8_isMoving) := goodIn_app (goodIn_of _ (by decide +kernel)) ggX8_copies_X8_isMoving
set_option maxRecDepth 20000 in
theorem ggX8_copies_X8_old : GoodIn wsX8_copies wsX8_old := goodIn_r _ [10, 6, 15, 16, 17, 18, 19, 20, 21, 22, 23, 24, 25, 26] (by decide +kernel) (by decide +kernel)
set_option maxRecDepth 20000 in
theorem gX8_copies_X8_old : GoodIn wsX8_copies (wsV RX8 52 RX8 yX8_old wsX8_old) := goodIn_app (goodIn_of _ (by decide +kernel)) ggX8_copies_X8_old
set_option maxRecDepth 20000 in
theorem ggX8_copies_X8_ofCopy : GoodIn wsX8_copies wsX8_ofCopy := goodIn_r _ [14, 6, 15, 16, 17, 18, 19, 20, 21, 22, 23, 24, 25, 26] (by decide +kernel) (by decide +kernel)
set_option maxRecDepth 20000 in
theorem gX8_copies_X8_ofCopy : GoodIn wsX8_copies (wsV RX8 44 RX8 yX8_ofCopy wsX8_ofCopy) := goodIn_app (goodIn_of _ (by decide +kernel)) ggX8_copies_X8_ofCopy
theorem dX8_copies_0 : decode cX8_copies 0 = .ok (.iconst 0, 1) := by decide +kernel
theorem dX8_copies_1 : decode cX8_copies 1 = .ok (.istore_n 2, 1) := by decide +kernel
theorem dX8_copies_2 : decode cX8_copies 2 = .ok (.iconst 0, 1) := by decide +kernel
theorem dX8_copies_3 : decode cX8_copies 3 = .ok (.istore_n 3, 1) := by decide +kernel
theorem dX8_copies_4 : decode cX8_copies 4 = .ok (.iload_n 3, 1) := by decide +kernel
theorem dX8_copies_5 : decode cX8_copies 5 = .ok (.sipush 188, 3) := by decide +kernel
theorem dX8_copies_8 : decode cX8_copies 8 = .ok (.if_icmp .ge 59, 3) := by decide +kernel
theorem dX8_copies_11 : decode cX8_copies 11 = .ok (.aload_n 0, 1) := by decide +kernel
theorem dX8_copies_12 : decode cX8_copies 12 = .ok (.invokevirtual 56, 3) := by decide +kernel
theorem dX8_copies_15 : decode cX8_copies 15 = .ok (.ifCond .eq 14, 3) := by decide +kernel
theorem dX8_copies_18 : decode cX8_copies 18 = .ok (.iload_n 3, 1) := by decide +kernel
theorem dX8_copies_19 : decode cX8_copies 19 = .ok (.bipush 64, 2) := by decide +kernel
theorem dX8_copies_21 : decode cX8_copies 21 = .ok (.idiv, 1) := by decide +kernel
theorem dX8_copies_22 : decode cX8_copies 22 = .ok (.aload_n 0, 1) := by decide +kernel
theorem dX8_copies_23 : decode cX8_copies 23 = .ok (.invokevirtual 52, 3) := by decide +kernel
theorem dX8_copies_26 : decode cX8_copies 26 = .ok (.if_icmp .eq 7, 3) := by decide +kernel
theorem dX8_copies_29 : decode cX8_copies 29 = .ok (.iconst 1, 1) := by decide +kernel
theorem dX8_copies_30 : decode cX8_copies 30 = .ok (.goto 4, 3) := by decide +kernel
theorem dX8_copies_33 : decode cX8_copies 33 = .ok (.iconst 0, 1) := by decide +kernel
theorem dX8_copies_34 : decode cX8_copies 34 = .ok (.istore 4, 2) := by decide +kernel
theorem dX8_copies_36 : decode cX8_copies 36 = .ok (.iload_n 2, 1) := by decide +kernel
theorem dX8_copies_37 : decode cX8_copies 37 = .ok (.iload 4, 2) := by decide +kernel
theorem dX8_copies_39 : decode cX8_copies 39 = .ok (.ifCond .eq 19, 3) := by decide +kernel
theorem dX8_copies_42 : decode cX8_copies 42 = .ok (.aload_n 0, 1) := by decide +kernel
theorem dX8_copies_43 : decode cX8_copies 43 = .ok (.iload_n 3, 1) := by decide +kernel
theorem dX8_copies_44 : decode cX8_copies 44 = .ok (.iconst 0, 1) := by decide +kernel
theorem dX8_copies_45 : decode cX8_copies 45 = .ok (.invokevirtual 44, 3) := by decide +kernel
theorem dX8_copies_48 : decode cX8_copies 48 = .ok (.iload_n 1, 1) := by decide +kernel
theorem dX8_copies_49 : decode cX8_copies 49 = .ok (.iconst 1, 1) := by decide +kernel
theorem dX8_copies_50 : decode cX8_copies 50 = .ok (.iadd, 1) := by decide +kernel
theorem dX8_copies_51 : decode cX8_copies 51 = .ok (.if_icmp .ne 7, 3) := by decide +kernel
theorem dX8_copies_54 : decode cX8_copies 54 = .ok (.iconst 1, 1) := by decide +kernel
theorem dX8_copies_55 : decode cX8_copies 55 = .ok (.goto 4, 3) := by decide +kernel
theorem dX8_copies_58 : decode cX8_copies 58 = .ok (.iconst 0, 1) := by decide +kernel
theorem dX8_copies_59 : decode cX8_copies 59 = .ok (.iadd, 1) := by decide +kernel
theorem dX8_copies_60 : decode cX8_copies 60 = .ok (.istore_n 2, 1) := by decide +kernel
theorem dX8_copies_61 : decode cX8_copies 61 = .ok (.iinc 3 1, 3) := by decide +kernel
theorem dX8_copies_64 : decode cX8_copies 64 = .ok (.goto (-60), 3) := by decide +kernel
theorem dX8_copies_67 : decode cX8_copies 67 = .ok (.iload_n 2, 1) := by decide +kernel
theorem dX8_copies_68 : decode cX8_copies 68 = .ok (.ireturn, 1) := by decide +kernel
set_option maxRecDepth 20000 in
theorem ggX8_first_X8_ofCopy : GoodIn wsX8_first wsX8_ofCopy := goodIn_r _ [5, 6, 7, 8, 9, 10, 11, 12, 13, 14, 15, 16, 17, 18] (by decide +kernel) (by decide +kernel)
set_option maxRecDepth 20000 in
theorem gX8_first_X8_ofCopy : GoodIn wsX8_first (wsV RX8 44 RX8 yX8_ofCopy wsX8_ofCopy) := goodIn_app (goodIn_of _ (by decide +kernel)) ggX8_first_X8_ofCopy
theorem dX8_first_0 : decode cX8_first 0 = .ok (.iconst 0, 1) := by decide +kernel
theorem dX8_first_1 : decode cX8_first 1 = .ok (.istore_n 2, 1) := by decide +kernel
theorem dX8_first_2 : decode cX8_first 2 = .ok (.aload_n 0, 1) := by decide +kernel
theorem dX8_first_3 : decode cX8_first 3 = .ok (.iload_n 2, 1) := by decide +kernel
theorem dX8_first_4 : decode cX8_first 4 = .ok (.iconst 0, 1) := by decide +kernel
theorem dX8_first_5 : decode cX8_first 5 = .ok (.invokevirtual 44, 3) := by decide +kernel
theorem dX8_first_8 : decode cX8_first 8 = .ok (.iload_n 1, 1) := by decide +kernel
theorem dX8_first_9 : decode cX8_first 9 = .ok (.iconst 1, 1) := by decide +kernel
theorem dX8_first_10 : decode cX8_first 10 = .ok (.iadd, 1) := by decide +kernel
theorem dX8_first_11 : decode cX8_first 11 = .ok (.if_icmp .eq 9, 3) := by decide +kernel
theorem dX8_first_14 : decode cX8_first 14 = .ok (.iinc 2 1, 3) := by decide +kernel
theorem dX8_first_17 : decode cX8_first 17 = .ok (.goto (-15), 3) := by decide +kernel
theorem dX8_first_20 : decode cX8_first 20 = .ok (.iload_n 2, 1) := by decide +kernel
theorem dX8_first_21 : decode cX8_first 21 = .ok (.ireturn, 1) := by decide +kernel
set_option maxRecDepth 20000 in
theorem ggX8_turns_X8_cell : GoodIn wsX8_turns wsX8_cell := goodIn_r _ [5] (by decide +kernel) (by decide +kernel)
set_option maxRecDepth 20000 in
theorem gX8_turns_X8_cell : GoodIn wsX8_turns (va_wsS RX8 79 yX8_cell wsX8_cell) := goodIn_app (goodIn_of _ (by decide +kernel)) ggX8_turns_X8_cell
set_option maxRecDepth 20000 in
theorem ggX8_turns_X8_ofCopy : GoodIn wsX8_turns wsX8_ofCopy := goodIn_r _ [9, 1, 10, 11, 12, 13, 14, 15, 16, 17, 18, 19, 20, 21] (by decide +kernel) (by decide +kernel)
set_option maxRecDepth 20000 in
theorem gX8_turns_X8_ofCopy : GoodIn wsX8_turns (wsV RX8 44 RX8 yX8_ofCopy wsX8_ofCopy) := goodIn_app (goodIn_of _ (by decide +kernel)) ggX8_turns_X8_ofCopy
theorem dX8_turns_0 : decode cX8_turns 0 = .ok (.aload_n 0, 1) := by decide +kernel
theorem dX8_turns_1 : decode cX8_turns 1 = .ok (.getfield 7, 3) := by decide +kernel
theorem dX8_turns_4 : decode cX8_turns 4 = .ok (.iload_n 1, 1) := by decide +kernel
theorem dX8_turns_5 : decode cX8_turns 5 = .ok (.iaload, 1) := by decide +kernel
theorem dX8_turns_6 : decode cX8_turns 6 = .ok (.bipush (-9), 2) := by decide +kernel
theorem dX8_turns_8 : decode cX8_turns 8 = .ok (.if_icmp .eq 27, 3) := by decide +kernel
theorem dX8_turns_11 : decode cX8_turns 11 = .ok (.aload_n 0, 1) := by decide +kernel
theorem dX8_turns_12 : decode cX8_turns 12 = .ok (.aload_n 0, 1) := by decide +kernel
theorem dX8_turns_13 : decode cX8_turns 13 = .ok (.getfield 7, 3) := by decide +kernel
theorem dX8_turns_16 : decode cX8_turns 16 = .ok (.iload_n 1, 1) := by decide +kernel
theorem dX8_turns_17 : decode cX8_turns 17 = .ok (.iaload, 1) := by decide +kernel
theorem dX8_turns_18 : decode cX8_turns 18 = .ok (.invokestatic 79, 3) := by decide +kernel
theorem dX8_turns_21 : decode cX8_turns 21 = .ok (.iconst 0, 1) := by decide +kernel
theorem dX8_turns_22 : decode cX8_turns 22 = .ok (.invokevirtual 44, 3) := by decide +kernel
theorem dX8_turns_25 : decode cX8_turns 25 = .ok (.iload_n 2, 1) := by decide +kernel
theorem dX8_turns_26 : decode cX8_turns 26 = .ok (.iconst 1, 1) := by decide +kernel
theorem dX8_turns_27 : decode cX8_turns 27 = .ok (.iadd, 1) := by decide +kernel
theorem dX8_turns_28 : decode cX8_turns 28 = .ok (.if_icmp .ne 7, 3) := by decide +kernel
theorem dX8_turns_31 : decode cX8_turns 31 = .ok (.iconst 1, 1) := by decide +kernel
theorem dX8_turns_32 : decode cX8_turns 32 = .ok (.goto 4, 3) := by decide +kernel
theorem dX8_turns_35 : decode cX8_turns 35 = .ok (.iconst 0, 1) := by decide +kernel
theorem dX8_turns_36 : decode cX8_turns 36 = .ok (.istore 4, 2) := by decide +kernel
theorem dX8_turns_38 : decode cX8_turns 38 = .ok (.aload_n 0, 1) := by decide +kernel
theorem dX8_turns_39 : decode cX8_turns 39 = .ok (.getfield 7, 3) := by decide +kernel
theorem dX8_turns_42 : decode cX8_turns 42 = .ok (.iload_n 1, 1) := by decide +kernel
theorem dX8_turns_43 : decode cX8_turns 43 = .ok (.iload 4, 2) := by decide +kernel
theorem dX8_turns_45 : decode cX8_turns 45 = .ok (.ifCond .eq 7, 3) := by decide +kernel
theorem dX8_turns_48 : decode cX8_turns 48 = .ok (.iload_n 3, 1) := by decide +kernel
theorem dX8_turns_49 : decode cX8_turns 49 = .ok (.goto 9, 3) := by decide +kernel
theorem dX8_turns_52 : decode cX8_turns 52 = .ok (.aload_n 0, 1) := by decide +kernel
theorem dX8_turns_53 : decode cX8_turns 53 = .ok (.getfield 7, 3) := by decide +kernel
theorem dX8_turns_56 : decode cX8_turns 56 = .ok (.iload_n 1, 1) := by decide +kernel
theorem dX8_turns_57 : decode cX8_turns 57 = .ok (.iaload, 1) := by decide +kernel
theorem dX8_turns_58 : decode cX8_turns 58 = .ok (.iastore, 1) := by decide +kernel
theorem dX8_turns_59 : decode cX8_turns 59 = .ok (.return_, 1) := by decide +kernel
set_option maxRecDepth 20000 in
theorem ggX8_mend_X8_isThing : GoodIn wsX8_mend wsX8_isThing := goodIn_r _ [6, 1, 48, 49, 50, 51, 52, 53, 54, 55, 56, 57, 58, 59] (by decide +kernel) (by decide +kernel)
set_option maxRecDepth 20000 in
theorem gX8_mend_X8_isThing : GoodIn wsX8_mend (wsV RX8 118 RX8 yX8_isThing wsX8_isThing) := goodIn_app (goodIn_of _ (by decide +kernel)) ggX8_mend_X8_isThing
set_option maxRecDepth 20000 in
theorem ggX8_mend_X8_copies : GoodIn wsX8_mend wsX8_copies := goodIn_r _ [10, 11, 12, 13, 5, 14, 1, 15, 16, 17, 18, 19, 20, 21, 22, 48, 49, 50, 51, 52, 53, 54, 55, 56, 57, 58, 59] (by decide +kernel) (by decide +kernel)
set_option maxRecDepth 20000 in
theorem gX8_mend_X8_copies : GoodIn wsX8_mend (wsV RX8 124 RX8 yX8_copies wsX8_copies) := goodIn_app (goodIn_of _ (by decide +kernel)) ggX8_mend_X8_copies
set_option maxRecDepth 20000 in
theorem ggX8_mend_X8_isMoving : GoodIn wsX8_mend wsX8_isMoving := goodIn_r _ [14, 1, 48, 49, 50, 51, 52, 53, 54, 55, 56, 57, 58, 59] (by decide +kernel) (by decide +kernel)
set_option maxRecDepth 20000 in
theorem gX8_mend_X8_isMoving : GoodIn wsX8_mend (wsV RX8 56 RX8 yX8_isMoving wsX8_isMoving) := goodIn_app (goodIn_of _ (by decide +kernel)) ggX8_mend_X8_isMoving
set_option maxRecDepth 20000 in
theorem ggX8_mend_X8_acts : GoodIn wsX8_mend wsX8_acts := goodIn_r _ [26, 27, 28, 29, 1, 48, 49, 50, 51, 52, 53, 54, 55, 56, 57, 58, 59] (by decide +kernel) (by decide +kernel)
set_option maxRecDepth 20000 in
theorem gX8_mend_X8_acts : GoodIn wsX8_mend (wsV RX8 94 RX8 yX8_acts wsX8_acts) := goodIn_app (goodIn_of _ (by decide +kernel)) ggX8_mend_X8_acts
set_option maxRecDepth 20000 in
theorem ggX8_mend_X8_first : GoodIn wsX8_mend wsX8_first := goodIn_r _ [33, 19, 20, 21, 5, 22, 1, 48, 49, 50, 51, 52, 53, 54, 55, 56, 57, 58, 59] (by decide +kernel) (by decide +kernel)
set_option maxRecDepth 20000 in
theorem gX8_mend_X8_first : GoodIn wsX8_mend (wsV RX8 127 RX8 yX8_first wsX8_first) := goodIn_app (goodIn_of _ (by decide +kernel)) ggX8_mend_X8_first
set_option maxRecDepth 20000 in
theorem ggX8_mend_X8_address : GoodIn wsX8_mend wsX8_address := goodIn_r _ [36] (by decide +kernel) (by decide +kernel)
set_option maxRecDepth 20000 in
theorem gX8_mend_X8_address : GoodIn wsX8_mend (va_wsS RX8 76 yX8_address wsX8_address) := goodIn_app (goodIn_of _ (by decide +kernel)) ggX8_mend_X8_address
set_option maxRecDepth 20000 in
theorem ggX8_mend_X8_turns : GoodIn wsX8_mend wsX8_turns := goodIn_r _ [40, 1, 41, 42, 5, 43, 19, 20, 21, 22, 48, 49, 50, 51, 52, 53, 54, 55, 56, 57, 58, 59] (by decide +kernel) (by decide +kernel)
set_option maxRecDepth 20000 in
theorem gX8_mend_X8_turns : GoodIn wsX8_mend (wsV RX8 130 RX8 yX8_turns wsX8_turns) := goodIn_app (goodIn_of _ (by decide +kernel)) ggX8_mend_X8_turns
set_option maxRecDepth 20000 in
theorem ggX8_mend_X8_isCopy : GoodIn wsX8_mend wsX8_isCopy := goodIn_r _ [47, 19, 20, 21, 5, 22, 1, 48, 49, 50, 51, 52, 53, 54, 55, 56, 57, 58, 59] (by decide +kernel) (by decide +kernel)
set_option maxRecDepth 20000 in
theorem gX8_mend_X8_isCopy : GoodIn wsX8_mend (wsV RX8 48 RX8 yX8_isCopy wsX8_isCopy) := goodIn_app (goodIn_of _ (by decide +kernel)) ggX8_mend_X8_isCopy
set_option maxRecDepth 20000 in
theorem ggX8_mend_X8_ofCopy : GoodIn wsX8_mend wsX8_ofCopy := goodIn_r _ [22, 1, 48, 49, 50, 51, 52, 53, 54, 55, 56, 57, 58, 59] (by decide +kernel) (by decide +kernel)
set_option maxRecDepth 20000 in
theorem gX8_mend_X8_ofCopy : GoodIn wsX8_mend (wsV RX8 44 RX8 yX8_ofCopy wsX8_ofCopy) := goodIn_app (goodIn_of _ (by decide +kernel)) ggX8_mend_X8_ofCopy
theorem dX8_mend_0 : decode cX8_mend 0 = .ok (.aload_n 0, 1) := by decide +kernel
theorem dX8_mend_1 : decode cX8_mend 1 = .ok (.iload_n 1, 1) := by decide +kernel
theorem dX8_mend_2 : decode cX8_mend 2 = .ok (.invokevirtual 118, 3) := by decide +kernel
theorem dX8_mend_5 : decode cX8_mend 5 = .ok (.ifCond .ne 5, 3) := by decide +kernel
theorem dX8_mend_8 : decode cX8_mend 8 = .ok (.iconst (-1), 1) := by decide +kernel
theorem dX8_mend_9 : decode cX8_mend 9 = .ok (.ireturn, 1) := by decide +kernel
theorem dX8_mend_10 : decode cX8_mend 10 = .ok (.aload_n 0, 1) := by decide +kernel
theorem dX8_mend_11 : decode cX8_mend 11 = .ok (.iload_n 1, 1) := by decide +kernel
theorem dX8_mend_12 : decode cX8_mend 12 = .ok (.invokevirtual 124, 3) := by decide +kernel
theorem dX8_mend_15 : decode cX8_mend 15 = .ok (.istore_n 2, 1) := by decide +kernel
theorem dX8_mend_16 : decode cX8_mend 16 = .ok (.aload_n 0, 1) := by decide +kernel
theorem dX8_mend_17 : decode cX8_mend 17 = .ok (.invokevirtual 56, 3) := by decide +kernel
theorem dX8_mend_20 : decode cX8_mend 20 = .ok (.ifCond .ne 8, 3) := by decide +kernel
theorem dX8_mend_23 : decode cX8_mend 23 = .ok (.iload_n 2, 1) := by decide +kernel
theorem dX8_mend_24 : decode cX8_mend 24 = .ok (.iconst 2, 1) := by decide +kernel
theorem dX8_mend_25 : decode cX8_mend 25 = .ok (.if_icmp .ge 6, 3) := by decide +kernel
theorem dX8_mend_28 : decode cX8_mend 28 = .ok (.bipush (-2), 2) := by decide +kernel
theorem dX8_mend_30 : decode cX8_mend 30 = .ok (.ireturn, 1) := by decide +kernel
theorem dX8_mend_31 : decode cX8_mend 31 = .ok (.aload_n 0, 1) := by decide +kernel
theorem dX8_mend_32 : decode cX8_mend 32 = .ok (.invokevirtual 94, 3) := by decide +kernel
theorem dX8_mend_35 : decode cX8_mend 35 = .ok (.aload_n 0, 1) := by decide +kernel
theorem dX8_mend_36 : decode cX8_mend 36 = .ok (.iload_n 1, 1) := by decide +kernel
theorem dX8_mend_37 : decode cX8_mend 37 = .ok (.invokevirtual 127, 3) := by decide +kernel
theorem dX8_mend_40 : decode cX8_mend 40 = .ok (.istore_n 3, 1) := by decide +kernel
theorem dX8_mend_41 : decode cX8_mend 41 = .ok (.iconst 0, 1) := by decide +kernel
theorem dX8_mend_42 : decode cX8_mend 42 = .ok (.istore 4, 2) := by decide +kernel
theorem dX8_mend_44 : decode cX8_mend 44 = .ok (.iload 4, 2) := by decide +kernel
theorem dX8_mend_46 : decode cX8_mend 46 = .ok (.bipush 8, 2) := by decide +kernel
theorem dX8_mend_48 : decode cX8_mend 48 = .ok (.if_icmp .ge 23, 3) := by decide +kernel
theorem dX8_mend_51 : decode cX8_mend 51 = .ok (.aload_n 0, 1) := by decide +kernel
theorem dX8_mend_52 : decode cX8_mend 52 = .ok (.bipush 9, 2) := by decide +kernel
theorem dX8_mend_54 : decode cX8_mend 54 = .ok (.iload 4, 2) := by decide +kernel
theorem dX8_mend_56 : decode cX8_mend 56 = .ok (.iadd, 1) := by decide +kernel
theorem dX8_mend_57 : decode cX8_mend 57 = .ok (.iload_n 1, 1) := by decide +kernel
theorem dX8_mend_58 : decode cX8_mend 58 = .ok (.iload_n 3, 1) := by decide +kernel
theorem dX8_mend_59 : decode cX8_mend 59 = .ok (.invokestatic 76, 3) := by decide +kernel
theorem dX8_mend_62 : decode cX8_mend 62 = .ok (.invokevirtual 130, 3) := by decide +kernel
theorem dX8_mend_65 : decode cX8_mend 65 = .ok (.iinc 4 1, 3) := by decide +kernel
theorem dX8_mend_68 : decode cX8_mend 68 = .ok (.goto (-24), 3) := by decide +kernel
theorem dX8_mend_71 : decode cX8_mend 71 = .ok (.iconst 0, 1) := by decide +kernel
theorem dX8_mend_72 : decode cX8_mend 72 = .ok (.istore 4, 2) := by decide +kernel
theorem dX8_mend_74 : decode cX8_mend 74 = .ok (.iload 4, 2) := by decide +kernel
theorem dX8_mend_76 : decode cX8_mend 76 = .ok (.sipush 188, 3) := by decide +kernel
theorem dX8_mend_79 : decode cX8_mend 79 = .ok (.if_icmp .ge 58, 3) := by decide +kernel
theorem dX8_mend_82 : decode cX8_mend 82 = .ok (.aload_n 0, 1) := by decide +kernel
theorem dX8_mend_83 : decode cX8_mend 83 = .ok (.iload 4, 2) := by decide +kernel
theorem dX8_mend_85 : decode cX8_mend 85 = .ok (.invokevirtual 48, 3) := by decide +kernel
theorem dX8_mend_88 : decode cX8_mend 88 = .ok (.ifCond .eq 43, 3) := by decide +kernel
theorem dX8_mend_91 : decode cX8_mend 91 = .ok (.aload_n 0, 1) := by decide +kernel
theorem dX8_mend_92 : decode cX8_mend 92 = .ok (.sipush 185, 3) := by decide +kernel
theorem dX8_mend_95 : decode cX8_mend 95 = .ok (.iconst 5, 1) := by decide +kernel
theorem dX8_mend_96 : decode cX8_mend 96 = .ok (.iload 4, 2) := by decide +kernel
theorem dX8_mend_98 : decode cX8_mend 98 = .ok (.imul, 1) := by decide +kernel
theorem dX8_mend_99 : decode cX8_mend 99 = .ok (.iadd, 1) := by decide +kernel
theorem dX8_mend_100 : decode cX8_mend 100 = .ok (.iconst 1, 1) := by decide +kernel
theorem dX8_mend_101 : decode cX8_mend 101 = .ok (.iadd, 1) := by decide +kernel
theorem dX8_mend_102 : decode cX8_mend 102 = .ok (.iload_n 1, 1) := by decide +kernel
theorem dX8_mend_103 : decode cX8_mend 103 = .ok (.iload_n 3, 1) := by decide +kernel
theorem dX8_mend_104 : decode cX8_mend 104 = .ok (.invokestatic 76, 3) := by decide +kernel
theorem dX8_mend_107 : decode cX8_mend 107 = .ok (.invokevirtual 130, 3) := by decide +kernel
theorem dX8_mend_110 : decode cX8_mend 110 = .ok (.aload_n 0, 1) := by decide +kernel
theorem dX8_mend_111 : decode cX8_mend 111 = .ok (.sipush 185, 3) := by decide +kernel
theorem dX8_mend_114 : decode cX8_mend 114 = .ok (.iconst 5, 1) := by decide +kernel
theorem dX8_mend_115 : decode cX8_mend 115 = .ok (.iload 4, 2) := by decide +kernel
theorem dX8_mend_117 : decode cX8_mend 117 = .ok (.imul, 1) := by decide +kernel
theorem dX8_mend_118 : decode cX8_mend 118 = .ok (.iadd, 1) := by decide +kernel
theorem dX8_mend_119 : decode cX8_mend 119 = .ok (.iconst 1, 1) := by decide +kernel
theorem dX8_mend_120 : decode cX8_mend 120 = .ok (.iadd, 1) := by decide +kernel
theorem dX8_mend_121 : decode cX8_mend 121 = .ok (.iconst 1, 1) := by decide +kernel
theorem dX8_mend_122 : decode cX8_mend 122 = .ok (.iadd, 1) := by decide +kernel
theorem dX8_mend_123 : decode cX8_mend 123 = .ok (.iload_n 1, 1) := by decide +kernel
theorem dX8_mend_124 : decode cX8_mend 124 = .ok (.iload_n 3, 1) := by decide +kernel
theorem dX8_mend_125 : decode cX8_mend 125 = .ok (.invokestatic 76, 3) := by decide +kernel
theorem dX8_mend_128 : decode cX8_mend 128 = .ok (.invokevirtual 130, 3) := by decide +kernel
theorem dX8_mend_131 : decode cX8_mend 131 = .ok (.iinc 4 1, 3) := by decide +kernel
theorem dX8_mend_134 : decode cX8_mend 134 = .ok (.goto (-60), 3) := by decide +kernel
theorem dX8_mend_137 : decode cX8_mend 137 = .ok (.iload_n 3, 1) := by decide +kernel
theorem dX8_mend_138 : decode cX8_mend 138 = .ok (.iconst 1, 1) := by decide +kernel
theorem dX8_mend_139 : decode cX8_mend 139 = .ok (.iadd, 1) := by decide +kernel
theorem dX8_mend_140 : decode cX8_mend 140 = .ok (.istore 4, 2) := by decide +kernel
theorem dX8_mend_142 : decode cX8_mend 142 = .ok (.iload 4, 2) := by decide +kernel
theorem dX8_mend_144 : decode cX8_mend 144 = .ok (.sipush 188, 3) := by decide +kernel
theorem dX8_mend_147 : decode cX8_mend 147 = .ok (.if_icmp .ge 48, 3) := by decide +kernel
theorem dX8_mend_150 : decode cX8_mend 150 = .ok (.aload_n 0, 1) := by decide +kernel
