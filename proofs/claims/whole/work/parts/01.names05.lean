theorem dX7_run_13 : decode cX7_run 13 = .ok (.iconst 0, 1) := by decide +kernel
theorem dX7_run_14 : decode cX7_run 14 = .ok (.istore_n 2, 1) := by decide +kernel
theorem dX7_run_15 : decode cX7_run 15 = .ok (.iload_n 2, 1) := by decide +kernel
theorem dX7_run_16 : decode cX7_run 16 = .ok (.aload_n 0, 1) := by decide +kernel
theorem dX7_run_17 : decode cX7_run 17 = .ok (.getfield 36, 3) := by decide +kernel
theorem dX7_run_20 : decode cX7_run 20 = .ok (.invokevirtual 94, 3) := by decide +kernel
theorem dX7_run_23 : decode cX7_run 23 = .ok (.if_icmp .ge 70, 3) := by decide +kernel
theorem dX7_run_26 : decode cX7_run 26 = .ok (.iload_n 1, 1) := by decide +kernel
theorem dX7_run_27 : decode cX7_run 27 = .ok (.bipush 80, 2) := by decide +kernel
theorem dX7_run_29 : decode cX7_run 29 = .ok (.if_icmp .ge 64, 3) := by decide +kernel
theorem dX7_run_32 : decode cX7_run 32 = .ok (.aload_n 0, 1) := by decide +kernel
theorem dX7_run_33 : decode cX7_run 33 = .ok (.getfield 43, 3) := by decide +kernel
theorem dX7_run_36 : decode cX7_run 36 = .ok (.aload_n 0, 1) := by decide +kernel
theorem dX7_run_37 : decode cX7_run 37 = .ok (.getfield 36, 3) := by decide +kernel
theorem dX7_run_40 : decode cX7_run 40 = .ok (.iload_n 2, 1) := by decide +kernel
theorem dX7_run_41 : decode cX7_run 41 = .ok (.invokevirtual 98, 3) := by decide +kernel
theorem dX7_run_44 : decode cX7_run 44 = .ok (.ifCond .ne 15, 3) := by decide +kernel
theorem dX7_run_47 : decode cX7_run 47 = .ok (.aload_n 0, 1) := by decide +kernel
theorem dX7_run_48 : decode cX7_run 48 = .ok (.aload_n 0, 1) := by decide +kernel
theorem dX7_run_49 : decode cX7_run 49 = .ok (.getfield 43, 3) := by decide +kernel
theorem dX7_run_52 : decode cX7_run 52 = .ok (.invokevirtual 102, 3) := by decide +kernel
theorem dX7_run_55 : decode cX7_run 55 = .ok (.invokevirtual 105, 3) := by decide +kernel
theorem dX7_run_58 : decode cX7_run 58 = .ok (.ireturn, 1) := by decide +kernel
theorem dX7_run_59 : decode cX7_run 59 = .ok (.aload_n 0, 1) := by decide +kernel
theorem dX7_run_60 : decode cX7_run 60 = .ok (.getfield 43, 3) := by decide +kernel
theorem dX7_run_63 : decode cX7_run 63 = .ok (.aload_n 0, 1) := by decide +kernel
theorem dX7_run_64 : decode cX7_run 64 = .ok (.getfield 12, 3) := by decide +kernel
theorem dX7_run_67 : decode cX7_run 67 = .ok (.invokevirtual 108, 3) := by decide +kernel
theorem dX7_run_70 : decode cX7_run 70 = .ok (.ifCond .ge 9, 3) := by decide +kernel
theorem dX7_run_73 : decode cX7_run 73 = .ok (.aload_n 0, 1) := by decide +kernel
theorem dX7_run_74 : decode cX7_run 74 = .ok (.iload_n 2, 1) := by decide +kernel
theorem dX7_run_75 : decode cX7_run 75 = .ok (.invokevirtual 105, 3) := by decide +kernel
theorem dX7_run_78 : decode cX7_run 78 = .ok (.ireturn, 1) := by decide +kernel
theorem dX7_run_79 : decode cX7_run 79 = .ok (.aload_n 0, 1) := by decide +kernel
theorem dX7_run_80 : decode cX7_run 80 = .ok (.getfield 43, 3) := by decide +kernel
theorem dX7_run_83 : decode cX7_run 83 = .ok (.invokevirtual 102, 3) := by decide +kernel
theorem dX7_run_86 : decode cX7_run 86 = .ok (.istore_n 2, 1) := by decide +kernel
theorem dX7_run_87 : decode cX7_run 87 = .ok (.iinc 1 1, 3) := by decide +kernel
theorem dX7_run_90 : decode cX7_run 90 = .ok (.goto (-75), 3) := by decide +kernel
theorem dX7_run_93 : decode cX7_run 93 = .ok (.aload_n 0, 1) := by decide +kernel
theorem dX7_run_94 : decode cX7_run 94 = .ok (.getfield 36, 3) := by decide +kernel
theorem dX7_run_97 : decode cX7_run 97 = .ok (.invokevirtual 95, 3) := by decide +kernel
theorem dX7_run_100 : decode cX7_run 100 = .ok (.aload_n 0, 1) := by decide +kernel
theorem dX7_run_101 : decode cX7_run 101 = .ok (.iload_n 1, 1) := by decide +kernel
theorem dX7_run_102 : decode cX7_run 102 = .ok (.invokevirtual 55, 3) := by decide +kernel
theorem dX7_run_105 : decode cX7_run 105 = .ok (.ireturn, 1) := by decide +kernel
set_option maxRecDepth 20000 in
theorem ggX7_count_X2_size : GoodIn wsX7_count wsX2_size := goodIn_r _ [8, 9, 96, 97, 98] (by decide +kernel) (by decide +kernel)
set_option maxRecDepth 20000 in
theorem gX7_count_X2_size : GoodIn wsX7_count (wsV RX7 85 RX2 yX2_size wsX2_size) := goodIn_app (goodIn_of _ (by decide +kernel)) ggX7_count_X2_size
set_option maxRecDepth 20000 in
theorem ggX7_count_X6_size : GoodIn wsX7_count wsX6_size := goodIn_r _ [14, 15, 99, 100] (by decide +kernel) (by decide +kernel)
set_option maxRecDepth 20000 in
theorem gX7_count_X6_size : GoodIn wsX7_count (wsV RX7 94 RX6 yX6_size wsX6_size) := goodIn_app (goodIn_of _ (by decide +kernel)) ggX7_count_X6_size
set_option maxRecDepth 20000 in
theorem ggX7_count_X5_numberOf : GoodIn wsX7_count wsX5_numberOf := goodIn_r _ [20, 21, 22, 23, 24, 25, 26, 27, 28, 29, 30, 31, 32, 33, 34, 35, 36, 37, 38, 39, 40, 41, 19, 42, 43, 44, 45, 46, 47, 48, 49, 50, 51, 52, 53, 54, 55, 56, 57, 58, 59, 60, 61, 62, 63, 64, 65, 66, 67, 68, 69, 70, 71, 72, 73, 74, 75, 76, 77, 78, 79, 80, 81, 82, 83, 84, 85, 86, 87, 88, 89, 101, 102, 103, 104, 105, 106, 107, 108, 109, 110, 111, 112, 113, 114, 115, 116, 117, 118] (by decide +kernel) (by decide +kernel)
set_option maxRecDepth 20000 in
theorem gX7_count_X5_numberOf : GoodIn wsX7_count (wsV RX7 112 RX5 yX5_numberOf wsX5_numberOf) := goodIn_app (goodIn_of _ (by decide +kernel)) ggX7_count_X5_numberOf
theorem dX7_count_0 : decode cX7_count 0 = .ok (.iload_n 1, 1) := by decide +kernel
theorem dX7_count_1 : decode cX7_count 1 = .ok (.lookupswitch 43 #[(12, 27), (13, 35)], 27) := by decide +kernel
theorem dX7_count_28 : decode cX7_count 28 = .ok (.aload_n 0, 1) := by decide +kernel
theorem dX7_count_29 : decode cX7_count 29 = .ok (.getfield 22, 3) := by decide +kernel
theorem dX7_count_32 : decode cX7_count 32 = .ok (.invokevirtual 85, 3) := by decide +kernel
theorem dX7_count_35 : decode cX7_count 35 = .ok (.ireturn, 1) := by decide +kernel
theorem dX7_count_36 : decode cX7_count 36 = .ok (.aload_n 0, 1) := by decide +kernel
theorem dX7_count_37 : decode cX7_count 37 = .ok (.getfield 36, 3) := by decide +kernel
theorem dX7_count_40 : decode cX7_count 40 = .ok (.invokevirtual 94, 3) := by decide +kernel
theorem dX7_count_43 : decode cX7_count 43 = .ok (.ireturn, 1) := by decide +kernel
theorem dX7_count_44 : decode cX7_count 44 = .ok (.aload_n 0, 1) := by decide +kernel
theorem dX7_count_45 : decode cX7_count 45 = .ok (.getfield 12, 3) := by decide +kernel
theorem dX7_count_48 : decode cX7_count 48 = .ok (.iload_n 1, 1) := by decide +kernel
theorem dX7_count_49 : decode cX7_count 49 = .ok (.invokevirtual 112, 3) := by decide +kernel
theorem dX7_count_52 : decode cX7_count 52 = .ok (.ireturn, 1) := by decide +kernel
set_option maxRecDepth 20000 in
theorem ggX7_hook_X7_isHook : GoodIn wsX7_hook wsX7_isHook := goodIn_r _ [5] (by decide +kernel) (by decide +kernel)
set_option maxRecDepth 20000 in
theorem gX7_hook_X7_isHook : GoodIn wsX7_hook (va_wsS RX7 115 yX7_isHook wsX7_isHook) := goodIn_app (goodIn_of _ (by decide +kernel)) ggX7_hook_X7_isHook
set_option maxRecDepth 20000 in
theorem ggX7_hook_X5_hungOn : GoodIn wsX7_hook wsX5_hungOn := goodIn_r _ [10, 11, 3, 4, 5, 21, 22, 23, 24, 25, 26, 27, 28, 29, 30] (by decide +kernel) (by decide +kernel)
set_option maxRecDepth 20000 in
theorem gX7_hook_X5_hungOn : GoodIn wsX7_hook (wsV RX7 119 RX5 yX5_hungOn wsX5_hungOn) := goodIn_app (goodIn_of _ (by decide +kernel)) ggX7_hook_X5_hungOn
set_option maxRecDepth 20000 in
theorem ggX7_hook_X7_orNone : GoodIn wsX7_hook wsX7_orNone := goodIn_r _ [14] (by decide +kernel) (by decide +kernel)
set_option maxRecDepth 20000 in
theorem gX7_hook_X7_orNone : GoodIn wsX7_hook (va_wsS RX7 122 yX7_orNone wsX7_orNone) := goodIn_app (goodIn_of _ (by decide +kernel)) ggX7_hook_X7_orNone
theorem dX7_hook_0 : decode cX7_hook 0 = .ok (.iload_n 1, 1) := by decide +kernel
theorem dX7_hook_1 : decode cX7_hook 1 = .ok (.invokestatic 115, 3) := by decide +kernel
theorem dX7_hook_4 : decode cX7_hook 4 = .ok (.ifCond .ne 5, 3) := by decide +kernel
theorem dX7_hook_7 : decode cX7_hook 7 = .ok (.iconst (-1), 1) := by decide +kernel
theorem dX7_hook_8 : decode cX7_hook 8 = .ok (.ireturn, 1) := by decide +kernel
theorem dX7_hook_9 : decode cX7_hook 9 = .ok (.aload_n 0, 1) := by decide +kernel
theorem dX7_hook_10 : decode cX7_hook 10 = .ok (.getfield 12, 3) := by decide +kernel
theorem dX7_hook_13 : decode cX7_hook 13 = .ok (.iload_n 1, 1) := by decide +kernel
theorem dX7_hook_14 : decode cX7_hook 14 = .ok (.invokevirtual 119, 3) := by decide +kernel
theorem dX7_hook_17 : decode cX7_hook 17 = .ok (.invokestatic 122, 3) := by decide +kernel
theorem dX7_hook_20 : decode cX7_hook 20 = .ok (.ireturn, 1) := by decide +kernel
set_option maxRecDepth 20000 in
theorem ggX7_copy_X0_isAt : GoodIn wsX7_copy wsX0_isAt := goodIn_r _ [6, 7, 55, 56, 57, 58, 59] (by decide +kernel) (by decide +kernel)
set_option maxRecDepth 20000 in
theorem gX7_copy_X0_isAt : GoodIn wsX7_copy (wsV RX7 129 RX0 yX0_isAt wsX0_isAt) := goodIn_app (goodIn_of _ (by decide +kernel)) ggX7_copy_X0_isAt
set_option maxRecDepth 20000 in
theorem ggX7_copy_X0_thingAt : GoodIn wsX7_copy wsX0_thingAt := goodIn_r _ [11, 12, 13, 3, 4, 5, 6, 7, 55, 56, 57, 58, 59] (by decide +kernel) (by decide +kernel)
set_option maxRecDepth 20000 in
theorem gX7_copy_X0_thingAt : GoodIn wsX7_copy (wsV RX7 134 RX0 yX0_thingAt wsX0_thingAt) := goodIn_app (goodIn_of _ (by decide +kernel)) ggX7_copy_X0_thingAt
set_option maxRecDepth 20000 in
theorem ggX7_copy_X0_sizeAt : GoodIn wsX7_copy wsX0_sizeAt := goodIn_r _ [17, 7, 13, 3, 4, 5, 6, 55, 56, 57, 58, 59] (by decide +kernel) (by decide +kernel)
set_option maxRecDepth 20000 in
theorem gX7_copy_X0_sizeAt : GoodIn wsX7_copy (wsV RX7 137 RX0 yX0_sizeAt wsX0_sizeAt) := goodIn_app (goodIn_of _ (by decide +kernel)) ggX7_copy_X0_sizeAt
set_option maxRecDepth 20000 in
theorem ggX7_copy_X0_noteAt : GoodIn wsX7_copy wsX0_noteAt := goodIn_r _ [21, 22, 13, 3, 4, 5, 6, 7, 55, 56, 57, 58, 59] (by decide +kernel) (by decide +kernel)
set_option maxRecDepth 20000 in
theorem gX7_copy_X0_noteAt : GoodIn wsX7_copy (wsV RX7 140 RX0 yX0_noteAt wsX0_noteAt) := goodIn_app (goodIn_of _ (by decide +kernel)) ggX7_copy_X0_noteAt
set_option maxRecDepth 20000 in
theorem ggX7_copy_X7_orNone : GoodIn wsX7_copy wsX7_orNone := goodIn_r _ [26] (by decide +kernel) (by decide +kernel)
set_option maxRecDepth 20000 in
theorem gX7_copy_X7_orNone : GoodIn wsX7_copy (va_wsS RX7 122 yX7_orNone wsX7_orNone) := goodIn_app (goodIn_of _ (by decide +kernel)) ggX7_copy_X7_orNone
set_option maxRecDepth 20000 in
theorem ggX7_copy_X0_isMarked : GoodIn wsX7_copy wsX0_isMarked := goodIn_r _ [30, 31, 13, 3, 4, 5, 6, 7, 55, 56, 57, 58, 59] (by decide +kernel) (by decide +kernel)
set_option maxRecDepth 20000 in
theorem gX7_copy_X0_isMarked : GoodIn wsX7_copy (wsV RX7 143 RX0 yX0_isMarked wsX0_isMarked) := goodIn_app (goodIn_of _ (by decide +kernel)) ggX7_copy_X0_isMarked
set_option maxRecDepth 20000 in
theorem ggX7_copy_X0_nameAt : GoodIn wsX7_copy wsX0_nameAt := goodIn_r _ [35, 36, 13, 3, 4, 5, 6, 7, 37, 25, 38, 55, 56, 57, 58, 59] (by decide +kernel) (by decide +kernel)
set_option maxRecDepth 20000 in
theorem gX7_copy_X0_nameAt : GoodIn wsX7_copy (wsV RX7 146 RX0 yX0_nameAt wsX0_nameAt) := goodIn_app (goodIn_of _ (by decide +kernel)) ggX7_copy_X0_nameAt
theorem dX7_copy_0 : decode cX7_copy 0 = .ok (.aload_n 0, 1) := by decide +kernel
theorem dX7_copy_1 : decode cX7_copy 1 = .ok (.getfield 12, 3) := by decide +kernel
theorem dX7_copy_4 : decode cX7_copy 4 = .ok (.getfield 125, 3) := by decide +kernel
theorem dX7_copy_7 : decode cX7_copy 7 = .ok (.astore_n 3, 1) := by decide +kernel
theorem dX7_copy_8 : decode cX7_copy 8 = .ok (.aload_n 3, 1) := by decide +kernel
theorem dX7_copy_9 : decode cX7_copy 9 = .ok (.iload_n 1, 1) := by decide +kernel
theorem dX7_copy_10 : decode cX7_copy 10 = .ok (.invokevirtual 129, 3) := by decide +kernel
theorem dX7_copy_13 : decode cX7_copy 13 = .ok (.ifCond .ne 5, 3) := by decide +kernel
theorem dX7_copy_16 : decode cX7_copy 16 = .ok (.iconst (-1), 1) := by decide +kernel
theorem dX7_copy_17 : decode cX7_copy 17 = .ok (.ireturn, 1) := by decide +kernel
theorem dX7_copy_18 : decode cX7_copy 18 = .ok (.iload_n 2, 1) := by decide +kernel
theorem dX7_copy_19 : decode cX7_copy 19 = .ok (.tableswitch 92 0 5 #[37, 43, 49, 58, 72, 82], 37) := by decide +kernel
theorem dX7_copy_56 : decode cX7_copy 56 = .ok (.aload_n 3, 1) := by decide +kernel
theorem dX7_copy_57 : decode cX7_copy 57 = .ok (.iload_n 1, 1) := by decide +kernel
theorem dX7_copy_58 : decode cX7_copy 58 = .ok (.invokevirtual 134, 3) := by decide +kernel
theorem dX7_copy_61 : decode cX7_copy 61 = .ok (.ireturn, 1) := by decide +kernel
theorem dX7_copy_62 : decode cX7_copy 62 = .ok (.aload_n 3, 1) := by decide +kernel
theorem dX7_copy_63 : decode cX7_copy 63 = .ok (.iload_n 1, 1) := by decide +kernel
theorem dX7_copy_64 : decode cX7_copy 64 = .ok (.invokevirtual 137, 3) := by decide +kernel
theorem dX7_copy_67 : decode cX7_copy 67 = .ok (.ireturn, 1) := by decide +kernel
theorem dX7_copy_68 : decode cX7_copy 68 = .ok (.aload_n 3, 1) := by decide +kernel
theorem dX7_copy_69 : decode cX7_copy 69 = .ok (.iload_n 1, 1) := by decide +kernel
theorem dX7_copy_70 : decode cX7_copy 70 = .ok (.invokevirtual 140, 3) := by decide +kernel
theorem dX7_copy_73 : decode cX7_copy 73 = .ok (.invokestatic 122, 3) := by decide +kernel
theorem dX7_copy_76 : decode cX7_copy 76 = .ok (.ireturn, 1) := by decide +kernel
theorem dX7_copy_77 : decode cX7_copy 77 = .ok (.aload_n 3, 1) := by decide +kernel
theorem dX7_copy_78 : decode cX7_copy 78 = .ok (.iload_n 1, 1) := by decide +kernel
theorem dX7_copy_79 : decode cX7_copy 79 = .ok (.invokevirtual 143, 3) := by decide +kernel
theorem dX7_copy_82 : decode cX7_copy 82 = .ok (.ifCond .eq 7, 3) := by decide +kernel
theorem dX7_copy_85 : decode cX7_copy 85 = .ok (.iconst 1, 1) := by decide +kernel
theorem dX7_copy_86 : decode cX7_copy 86 = .ok (.goto 4, 3) := by decide +kernel
theorem dX7_copy_89 : decode cX7_copy 89 = .ok (.iconst 0, 1) := by decide +kernel
theorem dX7_copy_90 : decode cX7_copy 90 = .ok (.ireturn, 1) := by decide +kernel
theorem dX7_copy_91 : decode cX7_copy 91 = .ok (.aload_n 3, 1) := by decide +kernel
theorem dX7_copy_92 : decode cX7_copy 92 = .ok (.iload_n 1, 1) := by decide +kernel
theorem dX7_copy_93 : decode cX7_copy 93 = .ok (.iconst 0, 1) := by decide +kernel
theorem dX7_copy_94 : decode cX7_copy 94 = .ok (.invokevirtual 146, 3) := by decide +kernel
theorem dX7_copy_97 : decode cX7_copy 97 = .ok (.invokestatic 122, 3) := by decide +kernel
theorem dX7_copy_100 : decode cX7_copy 100 = .ok (.ireturn, 1) := by decide +kernel
theorem dX7_copy_101 : decode cX7_copy 101 = .ok (.aload_n 3, 1) := by decide +kernel
theorem dX7_copy_102 : decode cX7_copy 102 = .ok (.iload_n 1, 1) := by decide +kernel
theorem dX7_copy_103 : decode cX7_copy 103 = .ok (.iconst 1, 1) := by decide +kernel
theorem dX7_copy_104 : decode cX7_copy 104 = .ok (.invokevirtual 146, 3) := by decide +kernel
theorem dX7_copy_107 : decode cX7_copy 107 = .ok (.invokestatic 122, 3) := by decide +kernel
theorem dX7_copy_110 : decode cX7_copy 110 = .ok (.ireturn, 1) := by decide +kernel
theorem dX7_copy_111 : decode cX7_copy 111 = .ok (.iconst (-1), 1) := by decide +kernel
theorem dX7_copy_112 : decode cX7_copy 112 = .ok (.ireturn, 1) := by decide +kernel
set_option maxRecDepth 20000 in
theorem ggX7_where_X5_isThing : GoodIn wsX7_where wsX5_isThing := goodIn_r _ [6, 7, 33, 34, 35, 36, 37, 38, 39, 40, 41, 42] (by decide +kernel) (by decide +kernel)
set_option maxRecDepth 20000 in
theorem gX7_where_X5_isThing : GoodIn wsX7_where (wsV RX7 149 RX5 yX5_isThing wsX5_isThing) := goodIn_app (goodIn_of _ (by decide +kernel)) ggX7_where_X5_isThing
set_option maxRecDepth 20000 in
theorem ggX7_where_X0_addressOf : GoodIn wsX7_where wsX0_addressOf := goodIn_r _ [12, 13, 14, 15, 11, 16, 17, 18, 19, 20, 21, 22, 43, 44, 45, 46, 47] (by decide +kernel) (by decide +kernel)
set_option maxRecDepth 20000 in
theorem gX7_where_X0_addressOf : GoodIn wsX7_where (wsV RX7 152 RX0 yX0_addressOf wsX0_addressOf) := goodIn_app (goodIn_of _ (by decide +kernel)) ggX7_where_X0_addressOf
set_option maxRecDepth 20000 in
theorem ggX7_where_X7_orNone : GoodIn wsX7_where wsX7_orNone := goodIn_r _ [26] (by decide +kernel) (by decide +kernel)
set_option maxRecDepth 20000 in
theorem gX7_where_X7_orNone : GoodIn wsX7_where (va_wsS RX7 122 yX7_orNone wsX7_orNone) := goodIn_app (goodIn_of _ (by decide +kernel)) ggX7_where_X7_orNone
theorem dX7_where_0 : decode cX7_where 0 = .ok (.aload_n 0, 1) := by decide +kernel
theorem dX7_where_1 : decode cX7_where 1 = .ok (.getfield 12, 3) := by decide +kernel
theorem dX7_where_4 : decode cX7_where 4 = .ok (.iload_n 1, 1) := by decide +kernel
theorem dX7_where_5 : decode cX7_where 5 = .ok (.invokevirtual 149, 3) := by decide +kernel
theorem dX7_where_8 : decode cX7_where 8 = .ok (.ifCond .eq 7, 3) := by decide +kernel
theorem dX7_where_11 : decode cX7_where 11 = .ok (.iload_n 2, 1) := by decide +kernel
theorem dX7_where_12 : decode cX7_where 12 = .ok (.ifCond .ge 5, 3) := by decide +kernel
theorem dX7_where_15 : decode cX7_where 15 = .ok (.iconst (-1), 1) := by decide +kernel
theorem dX7_where_16 : decode cX7_where 16 = .ok (.ireturn, 1) := by decide +kernel
theorem dX7_where_17 : decode cX7_where 17 = .ok (.aload_n 0, 1) := by decide +kernel
theorem dX7_where_18 : decode cX7_where 18 = .ok (.getfield 12, 3) := by decide +kernel
theorem dX7_where_21 : decode cX7_where 21 = .ok (.getfield 125, 3) := by decide +kernel
theorem dX7_where_24 : decode cX7_where 24 = .ok (.iload_n 1, 1) := by decide +kernel
theorem dX7_where_25 : decode cX7_where 25 = .ok (.iload_n 2, 1) := by decide +kernel
theorem dX7_where_26 : decode cX7_where 26 = .ok (.invokevirtual 152, 3) := by decide +kernel
theorem dX7_where_29 : decode cX7_where 29 = .ok (.invokestatic 122, 3) := by decide +kernel
theorem dX7_where_32 : decode cX7_where 32 = .ok (.ireturn, 1) := by decide +kernel
set_option maxRecDepth 20000 in
theorem ggX7_named_X7_isHook : GoodIn wsX7_named wsX7_isHook := goodIn_r _ [6] (by decide +kernel) (by decide +kernel)
set_option maxRecDepth 20000 in
theorem gX7_named_X7_isHook : GoodIn wsX7_named (va_wsS RX7 115 yX7_isHook wsX7_isHook) := goodIn_app (goodIn_of _ (by decide +kernel)) ggX7_named_X7_isHook
set_option maxRecDepth 20000 in
theorem ggX7_named_X4_clear : GoodIn wsX7_named wsX4_clear := goodIn_r _ [11, 12, 13, 83, 84, 85, 86] (by decide +kernel) (by decide +kernel)
set_option maxRecDepth 20000 in
theorem gX7_named_X4_clear : GoodIn wsX7_named (wsV RX7 155 RX4 yX4_clear wsX4_clear) := goodIn_app (goodIn_of _ (by decide +kernel)) ggX7_named_X4_clear
set_option maxRecDepth 20000 in
theorem ggX7_named_X5_hungOn : GoodIn wsX7_named wsX5_hungOn := goodIn_r _ [18, 19, 4, 5, 6, 73, 74, 75, 76, 77, 78, 79, 80, 81, 82] (by decide +kernel) (by decide +kernel)
set_option maxRecDepth 20000 in
theorem gX7_named_X5_hungOn : GoodIn wsX7_named (wsV RX7 119 RX5 yX5_hungOn wsX5_hungOn) := goodIn_app (goodIn_of _ (by decide +kernel)) ggX7_named_X5_hungOn
set_option maxRecDepth 20000 in
theorem ggX7_named_X4_add : GoodIn wsX7_named wsX4_add := goodIn_r _ [23, 13, 12, 24, 25, 26, 27, 28, 29, 30, 31, 32, 33, 34, 35, 36, 37, 38, 39, 40, 41, 42, 43, 10, 44, 83, 84, 85, 86, 87, 88, 89, 90, 91] (by decide +kernel) (by decide +kernel)
set_option maxRecDepth 20000 in
theorem gX7_named_X4_add : GoodIn wsX7_named (wsV RX7 158 RX4 yX4_add wsX4_add) := goodIn_app (goodIn_of _ (by decide +kernel)) ggX7_named_X4_add
set_option maxRecDepth 20000 in
theorem ggX7_named_X4_spread : GoodIn wsX7_named wsX4_spread := goodIn_r _ [48, 13, 24, 49, 50, 51, 28, 52, 53, 35, 36, 37, 38, 39, 54, 5, 55, 56, 21, 22, 10, 23, 12, 25, 26, 27, 29, 30, 31, 32, 33, 34, 40, 41, 42, 43, 44, 83, 84, 85, 86, 87, 88, 89, 90, 91] (by decide +kernel) (by decide +kernel)
set_option maxRecDepth 20000 in
theorem gX7_named_X4_spread : GoodIn wsX7_named (wsV RX7 162 RX4 yX4_spread wsX4_spread) := goodIn_app (goodIn_of _ (by decide +kernel)) ggX7_named_X4_spread
set_option maxRecDepth 20000 in
theorem ggX7_named_X4_differentThings : GoodIn wsX7_named wsX4_differentThings := goodIn_r _ [60, 61, 13, 24, 62, 63, 64, 28, 65, 66, 35, 36, 37, 38, 39, 83, 84, 85, 86, 87, 88, 89, 90, 91] (by decide +kernel) (by decide +kernel)
set_option maxRecDepth 20000 in
theorem gX7_named_X4_differentThings : GoodIn wsX7_named (wsV RX7 166 RX4 yX4_differentThings wsX4_differentThings) := goodIn_app (goodIn_of _ (by decide +kernel)) ggX7_named_X4_differentThings
theorem dX7_named_0 : decode cX7_named 0 = .ok (.iload_n 1, 1) := by decide +kernel
theorem dX7_named_1 : decode cX7_named 1 = .ok (.invokestatic 115, 3) := by decide +kernel
theorem dX7_named_4 : decode cX7_named 4 = .ok (.ifCond .ne 5, 3) := by decide +kernel
theorem dX7_named_7 : decode cX7_named 7 = .ok (.iconst (-1), 1) := by decide +kernel
theorem dX7_named_8 : decode cX7_named 8 = .ok (.ireturn, 1) := by decide +kernel
theorem dX7_named_9 : decode cX7_named 9 = .ok (.aload_n 0, 1) := by decide +kernel
theorem dX7_named_10 : decode cX7_named 10 = .ok (.getfield 29, 3) := by decide +kernel
theorem dX7_named_13 : decode cX7_named 13 = .ok (.invokevirtual 155, 3) := by decide +kernel
theorem dX7_named_16 : decode cX7_named 16 = .ok (.aload_n 0, 1) := by decide +kernel
theorem dX7_named_17 : decode cX7_named 17 = .ok (.getfield 29, 3) := by decide +kernel
theorem dX7_named_20 : decode cX7_named 20 = .ok (.aload_n 0, 1) := by decide +kernel
theorem dX7_named_21 : decode cX7_named 21 = .ok (.getfield 12, 3) := by decide +kernel
theorem dX7_named_24 : decode cX7_named 24 = .ok (.getfield 125, 3) := by decide +kernel
theorem dX7_named_27 : decode cX7_named 27 = .ok (.aload_n 0, 1) := by decide +kernel
theorem dX7_named_28 : decode cX7_named 28 = .ok (.getfield 12, 3) := by decide +kernel
theorem dX7_named_31 : decode cX7_named 31 = .ok (.iload_n 1, 1) := by decide +kernel
theorem dX7_named_32 : decode cX7_named 32 = .ok (.invokevirtual 119, 3) := by decide +kernel
theorem dX7_named_35 : decode cX7_named 35 = .ok (.invokevirtual 158, 3) := by decide +kernel
theorem dX7_named_38 : decode cX7_named 38 = .ok (.aload_n 0, 1) := by decide +kernel
theorem dX7_named_39 : decode cX7_named 39 = .ok (.getfield 29, 3) := by decide +kernel
theorem dX7_named_42 : decode cX7_named 42 = .ok (.aload_n 0, 1) := by decide +kernel
theorem dX7_named_43 : decode cX7_named 43 = .ok (.getfield 12, 3) := by decide +kernel
theorem dX7_named_46 : decode cX7_named 46 = .ok (.getfield 125, 3) := by decide +kernel
theorem dX7_named_49 : decode cX7_named 49 = .ok (.invokevirtual 162, 3) := by decide +kernel
theorem dX7_named_52 : decode cX7_named 52 = .ok (.aload_n 0, 1) := by decide +kernel
theorem dX7_named_53 : decode cX7_named 53 = .ok (.getfield 29, 3) := by decide +kernel
theorem dX7_named_56 : decode cX7_named 56 = .ok (.aload_n 0, 1) := by decide +kernel
theorem dX7_named_57 : decode cX7_named 57 = .ok (.getfield 12, 3) := by decide +kernel
theorem dX7_named_60 : decode cX7_named 60 = .ok (.getfield 125, 3) := by decide +kernel
theorem dX7_named_63 : decode cX7_named 63 = .ok (.invokevirtual 166, 3) := by decide +kernel
theorem dX7_named_66 : decode cX7_named 66 = .ok (.ireturn, 1) := by decide +kernel
set_option maxRecDepth 20000 in
theorem ggX7_garbage_X4_clear : GoodIn wsX7_garbage wsX4_clear := goodIn_r _ [7, 8, 9, 81, 82, 83, 84] (by decide +kernel) (by decide +kernel)
set_option maxRecDepth 20000 in
theorem gX7_garbage_X4_clear : GoodIn wsX7_garbage (wsV RX7 155 RX4 yX4_clear wsX4_clear) := goodIn_app (goodIn_of _ (by decide +kernel)) ggX7_garbage_X4_clear
set_option maxRecDepth 20000 in
theorem ggX7_garbage_X5_hungOn : GoodIn wsX7_garbage wsX5_hungOn := goodIn_r _ [14, 15, 16, 17, 18, 71, 72, 73, 74, 75, 76, 77, 78, 79, 80] (by decide +kernel) (by decide +kernel)
set_option maxRecDepth 20000 in
theorem gX7_garbage_X5_hungOn : GoodIn wsX7_garbage (wsV RX7 119 RX5 yX5_hungOn wsX5_hungOn) := goodIn_app (goodIn_of _ (by decide +kernel)) ggX7_garbage_X5_hungOn
set_option maxRecDepth 20000 in
theorem ggX7_garbage_X4_add : GoodIn wsX7_garbage wsX4_add := goodIn_r _ [22, 9, 8, 23, 24, 25, 26, 27, 28, 29, 30, 31, 32, 33, 34, 35, 36, 37, 38, 39, 40, 41, 42, 6, 43, 81, 82, 83, 84, 85, 86, 87, 88, 89] (by decide +kernel) (by decide +kernel)
set_option maxRecDepth 20000 in
theorem gX7_garbage_X4_add : GoodIn wsX7_garbage (wsV RX7 158 RX4 yX4_add wsX4_add) := goodIn_app (goodIn_of _ (by decide +kernel)) ggX7_garbage_X4_add
set_option maxRecDepth 20000 in
theorem ggX7_garbage_X4_spread : GoodIn wsX7_garbage wsX4_spread := goodIn_r _ [47, 9, 23, 48, 49, 50, 27, 51, 52, 34, 35, 36, 37, 38, 53, 17, 54, 55, 20, 21, 6, 22, 8, 24, 25, 26, 28, 29, 30, 31, 32, 33, 39, 40, 41, 42, 43, 81, 82, 83, 84, 85, 86, 87, 88, 89] (by decide +kernel) (by decide +kernel)
set_option maxRecDepth 20000 in
theorem gX7_garbage_X4_spread : GoodIn wsX7_garbage (wsV RX7 162 RX4 yX4_spread wsX4_spread) := goodIn_app (goodIn_of _ (by decide +kernel)) ggX7_garbage_X4_spread
set_option maxRecDepth 20000 in
theorem ggX7_garbage_X4_placesOutside : GoodIn wsX7_garbage wsX4_placesOutside := goodIn_r _ [59, 40, 41, 42, 6, 43, 8, 60, 30, 31, 27, 32, 33, 34, 35, 36, 37, 38, 61, 62, 63, 64, 81, 82, 83, 84, 85, 86, 87, 88, 89] (by decide +kernel) (by decide +kernel)
set_option maxRecDepth 20000 in
theorem gX7_garbage_X4_placesOutside : GoodIn wsX7_garbage (wsV RX7 170 RX4 yX4_placesOutside wsX4_placesOutside) := goodIn_app (goodIn_of _ (by decide +kernel)) ggX7_garbage_X4_placesOutside
theorem dX7_garbage_0 : decode cX7_garbage 0 = .ok (.aload_n 0, 1) := by decide +kernel
theorem dX7_garbage_1 : decode cX7_garbage 1 = .ok (.getfield 29, 3) := by decide +kernel
theorem dX7_garbage_4 : decode cX7_garbage 4 = .ok (.invokevirtual 155, 3) := by decide +kernel
theorem dX7_garbage_7 : decode cX7_garbage 7 = .ok (.iconst 0, 1) := by decide +kernel
theorem dX7_garbage_8 : decode cX7_garbage 8 = .ok (.istore_n 1, 1) := by decide +kernel
theorem dX7_garbage_9 : decode cX7_garbage 9 = .ok (.iload_n 1, 1) := by decide +kernel
theorem dX7_garbage_10 : decode cX7_garbage 10 = .ok (.bipush 8, 2) := by decide +kernel
theorem dX7_garbage_12 : decode cX7_garbage 12 = .ok (.if_icmp .ge 31, 3) := by decide +kernel
theorem dX7_garbage_15 : decode cX7_garbage 15 = .ok (.aload_n 0, 1) := by decide +kernel
theorem dX7_garbage_16 : decode cX7_garbage 16 = .ok (.getfield 29, 3) := by decide +kernel
theorem dX7_garbage_19 : decode cX7_garbage 19 = .ok (.aload_n 0, 1) := by decide +kernel
theorem dX7_garbage_20 : decode cX7_garbage 20 = .ok (.getfield 12, 3) := by decide +kernel
theorem dX7_garbage_23 : decode cX7_garbage 23 = .ok (.getfield 125, 3) := by decide +kernel
theorem dX7_garbage_26 : decode cX7_garbage 26 = .ok (.aload_n 0, 1) := by decide +kernel
theorem dX7_garbage_27 : decode cX7_garbage 27 = .ok (.getfield 12, 3) := by decide +kernel
theorem dX7_garbage_30 : decode cX7_garbage 30 = .ok (.iload_n 1, 1) := by decide +kernel
theorem dX7_garbage_31 : decode cX7_garbage 31 = .ok (.invokevirtual 119, 3) := by decide +kernel
theorem dX7_garbage_34 : decode cX7_garbage 34 = .ok (.invokevirtual 158, 3) := by decide +kernel
theorem dX7_garbage_37 : decode cX7_garbage 37 = .ok (.iinc 1 1, 3) := by decide +kernel
theorem dX7_garbage_40 : decode cX7_garbage 40 = .ok (.goto (-31), 3) := by decide +kernel
theorem dX7_garbage_43 : decode cX7_garbage 43 = .ok (.aload_n 0, 1) := by decide +kernel
theorem dX7_garbage_44 : decode cX7_garbage 44 = .ok (.getfield 29, 3) := by decide +kernel
theorem dX7_garbage_47 : decode cX7_garbage 47 = .ok (.aload_n 0, 1) := by decide +kernel
theorem dX7_garbage_48 : decode cX7_garbage 48 = .ok (.getfield 12, 3) := by decide +kernel
theorem dX7_garbage_51 : decode cX7_garbage 51 = .ok (.getfield 125, 3) := by decide +kernel
theorem dX7_garbage_54 : decode cX7_garbage 54 = .ok (.invokevirtual 162, 3) := by decide +kernel
theorem dX7_garbage_57 : decode cX7_garbage 57 = .ok (.aload_n 0, 1) := by decide +kernel
theorem dX7_garbage_58 : decode cX7_garbage 58 = .ok (.getfield 29, 3) := by decide +kernel
theorem dX7_garbage_61 : decode cX7_garbage 61 = .ok (.aload_n 0, 1) := by decide +kernel
theorem dX7_garbage_62 : decode cX7_garbage 62 = .ok (.getfield 12, 3) := by decide +kernel
theorem dX7_garbage_65 : decode cX7_garbage 65 = .ok (.getfield 125, 3) := by decide +kernel
theorem dX7_garbage_68 : decode cX7_garbage 68 = .ok (.invokevirtual 170, 3) := by decide +kernel
theorem dX7_garbage_71 : decode cX7_garbage 71 = .ok (.ireturn, 1) := by decide +kernel
set_option maxRecDepth 20000 in
theorem ggX7_stepsLeft_X5_become : GoodIn wsX7_stepsLeft wsX5_become := goodIn_r _ [7, 8, 9, 10, 11, 12, 13, 14, 15, 16, 17, 18, 19, 20, 21, 22, 23, 24, 25, 26, 27, 28, 29, 30, 31, 32, 33, 34, 35, 36, 37, 38, 39, 40, 41, 120, 121, 122, 123, 124, 125, 126, 127, 128, 129, 130, 131, 132, 133, 134, 135, 136, 137] (by decide +kernel) (by decide +kernel)
set_option maxRecDepth 20000 in
theorem gX7_stepsLeft_X5_become : GoodIn wsX7_stepsLeft (wsV RX7 177 RX5 yX5_become wsX5_become) := goodIn_app (goodIn_of _ (by decide +kernel)) ggX7_stepsLeft_X5_become
set_option maxRecDepth 20000 in
theorem ggX7_stepsLeft_X5_stepsUpTo : GoodIn wsX7_stepsLeft wsX5_stepsUpTo := goodIn_r _ [45, 17, 14, 13, 46, 47, 48, 36, 49, 40, 41, 38, 50, 51, 52, 6, 53, 54, 55, 56, 57, 18, 58, 59, 60, 61, 62, 63, 64, 25, 65, 30, 66, 67, 68, 69, 29, 70, 71, 72, 73, 74, 75, 76, 77, 19, 78, 79, 80, 81, 82, 83, 84, 85, 27, 31, 32, 86, 87, 88, 89, 90, 91, 92, 93, 94, 95, 96, 97, 98, 99, 100, 101, 21, 102, 103, 104, 105, 106, 107, 108, 109, 110, 111, 112, 113, 120, 121, 122, 123, 124, 125, 126, 127, 128, 129, 130, 131, 132, 133, 134, 135, 136, 137] (by decide +kernel) (by decide +kernel)
set_option maxRecDepth 20000 in
theorem gX7_stepsLeft_X5_stepsUpTo : GoodIn wsX7_stepsLeft (wsV RX7 180 RX5 yX5_stepsUpTo wsX5_stepsUpTo) := goodIn_app (goodIn_of _ (by decide +kernel)) ggX7_stepsLeft_X5_stepsUpTo
theorem dX7_stepsLeft_0 : decode cX7_stepsLeft 0 = .ok (.aload_n 0, 1) := by decide +kernel
theorem dX7_stepsLeft_1 : decode cX7_stepsLeft 1 = .ok (.getfield 12, 3) := by decide +kernel
theorem dX7_stepsLeft_4 : decode cX7_stepsLeft 4 = .ok (.getfield 173, 3) := by decide +kernel
theorem dX7_stepsLeft_7 : decode cX7_stepsLeft 7 = .ok (.ifCond .ne 6, 3) := by decide +kernel
theorem dX7_stepsLeft_10 : decode cX7_stepsLeft 10 = .ok (.bipush (-2), 2) := by decide +kernel
theorem dX7_stepsLeft_12 : decode cX7_stepsLeft 12 = .ok (.ireturn, 1) := by decide +kernel
theorem dX7_stepsLeft_13 : decode cX7_stepsLeft 13 = .ok (.aload_n 0, 1) := by decide +kernel
theorem dX7_stepsLeft_14 : decode cX7_stepsLeft 14 = .ok (.getfield 16, 3) := by decide +kernel
theorem dX7_stepsLeft_17 : decode cX7_stepsLeft 17 = .ok (.aload_n 0, 1) := by decide +kernel
theorem dX7_stepsLeft_18 : decode cX7_stepsLeft 18 = .ok (.getfield 12, 3) := by decide +kernel
theorem dX7_stepsLeft_21 : decode cX7_stepsLeft 21 = .ok (.invokevirtual 177, 3) := by decide +kernel
theorem dX7_stepsLeft_24 : decode cX7_stepsLeft 24 = .ok (.aload_n 0, 1) := by decide +kernel
theorem dX7_stepsLeft_25 : decode cX7_stepsLeft 25 = .ok (.getfield 16, 3) := by decide +kernel
theorem dX7_stepsLeft_28 : decode cX7_stepsLeft 28 = .ok (.bipush 124, 2) := by decide +kernel
theorem dX7_stepsLeft_30 : decode cX7_stepsLeft 30 = .ok (.invokevirtual 180, 3) := by decide +kernel
theorem dX7_stepsLeft_33 : decode cX7_stepsLeft 33 = .ok (.ireturn, 1) := by decide +kernel
set_option maxRecDepth 20000 in
theorem ggX7_freeThen_X5_become : GoodIn wsX7_freeThen wsX5_become := goodIn_r _ [7, 8, 9, 10, 11, 12, 13, 14, 15, 16, 17, 18, 19, 20, 21, 22, 23, 24, 25, 26, 27, 28, 29, 30, 31, 32, 33, 34, 35, 36, 37, 38, 39, 40, 41, 129, 130, 131, 132, 133, 134, 135, 136, 137, 138, 139, 140, 141, 142, 143, 144, 145, 146] (by decide +kernel) (by decide +kernel)
set_option maxRecDepth 20000 in
theorem gX7_freeThen_X5_become : GoodIn wsX7_freeThen (wsV RX7 177 RX5 yX5_become wsX5_become) := goodIn_app (goodIn_of _ (by decide +kernel)) ggX7_freeThen_X5_become
set_option maxRecDepth 20000 in
theorem ggX7_freeThen_X5_stepsUpTo : GoodIn wsX7_freeThen wsX5_stepsUpTo := goodIn_r _ [45, 17, 14, 13, 46, 47, 48, 36, 49, 40, 41, 38, 50, 51, 52, 6, 53, 54, 55, 56, 57, 18, 58, 59, 60, 61, 62, 63, 64, 25, 65, 30, 66, 67, 68, 69, 29, 70, 71, 72, 73, 74, 75, 76, 77, 19, 78, 79, 80, 81, 82, 83, 84, 85, 27, 31, 32, 86, 87, 88, 89, 90, 91, 92, 93, 94, 95, 96, 97, 98, 99, 100, 101, 21, 102, 103, 104, 105, 106, 107, 108, 109, 110, 111, 112, 113, 129, 130, 131, 132, 133, 134, 135, 136, 137, 138, 139, 140, 141, 142, 143, 144, 145, 146] (by decide +kernel) (by decide +kernel)
set_option maxRecDepth 20000 in
theorem gX7_freeThen_X5_stepsUpTo : GoodIn wsX7_freeThen (wsV RX7 180 RX5 yX5_stepsUpTo wsX5_stepsUpTo) := goodIn_app (goodIn_of _ (by decide +kernel)) ggX7_freeThen_X5_stepsUpTo
set_option maxRecDepth 20000 in
theorem ggX7_freeThen_X5_beginMove : GoodIn wsX7_freeThen wsX5_beginMove := goodIn_r _ [117, 17, 18, 19, 14, 8, 118, 119, 120, 36, 121, 40, 41, 50, 51, 52, 6, 53, 13, 54, 55, 56, 57, 58, 59, 60, 61, 62, 63, 64, 25, 65, 30, 66, 67, 68, 69, 29, 70, 71, 72, 73, 74, 75, 76, 77, 78, 79, 80, 81, 82, 83, 84, 85, 27, 31, 32, 86, 87, 88, 89, 38, 90, 91, 92, 93, 94, 95, 96, 97, 98, 99, 100, 101, 21, 102, 103, 104, 105, 106, 107, 108, 109, 110, 111, 112, 113, 129, 130, 131, 132, 133, 134, 135, 136, 137, 138, 144, 145, 146, 139, 140, 141, 142, 143] (by decide +kernel) (by decide +kernel)
set_option maxRecDepth 20000 in
theorem gX7_freeThen_X5_beginMove : GoodIn wsX7_freeThen (wsV RX7 72 RX5 yX5_beginMove wsX5_beginMove) := goodIn_app (goodIn_of _ (by decide +kernel)) ggX7_freeThen_X5_beginMove
set_option maxRecDepth 20000 in
theorem ggX7_freeThen_X5_freeInHalf : GoodIn wsX7_freeThen wsX5_freeInHalf := goodIn_r _ [81, 19, 129, 130, 131, 132, 133, 134, 135, 136, 137, 138] (by decide +kernel) (by decide +kernel)
set_option maxRecDepth 20000 in
theorem gX7_freeThen_X5_freeInHalf : GoodIn wsX7_freeThen (wsV RX7 183 RX5 yX5_freeInHalf wsX5_freeInHalf) := goodIn_app (goodIn_of _ (by decide +kernel)) ggX7_freeThen_X5_freeInHalf
theorem dX7_freeThen_0 : decode cX7_freeThen 0 = .ok (.aload_n 0, 1) := by decide +kernel
theorem dX7_freeThen_1 : decode cX7_freeThen 1 = .ok (.getfield 16, 3) := by decide +kernel
theorem dX7_freeThen_4 : decode cX7_freeThen 4 = .ok (.aload_n 0, 1) := by decide +kernel
theorem dX7_freeThen_5 : decode cX7_freeThen 5 = .ok (.getfield 12, 3) := by decide +kernel
theorem dX7_freeThen_8 : decode cX7_freeThen 8 = .ok (.invokevirtual 177, 3) := by decide +kernel
theorem dX7_freeThen_11 : decode cX7_freeThen 11 = .ok (.aload_n 0, 1) := by decide +kernel
theorem dX7_freeThen_12 : decode cX7_freeThen 12 = .ok (.getfield 16, 3) := by decide +kernel
theorem dX7_freeThen_15 : decode cX7_freeThen 15 = .ok (.bipush 124, 2) := by decide +kernel
theorem dX7_freeThen_17 : decode cX7_freeThen 17 = .ok (.invokevirtual 180, 3) := by decide +kernel
theorem dX7_freeThen_20 : decode cX7_freeThen 20 = .ok (.pop, 1) := by decide +kernel
theorem dX7_freeThen_21 : decode cX7_freeThen 21 = .ok (.aload_n 0, 1) := by decide +kernel
theorem dX7_freeThen_22 : decode cX7_freeThen 22 = .ok (.getfield 16, 3) := by decide +kernel
theorem dX7_freeThen_25 : decode cX7_freeThen 25 = .ok (.invokevirtual 72, 3) := by decide +kernel
theorem dX7_freeThen_28 : decode cX7_freeThen 28 = .ok (.pop, 1) := by decide +kernel
theorem dX7_freeThen_29 : decode cX7_freeThen 29 = .ok (.aload_n 0, 1) := by decide +kernel
theorem dX7_freeThen_30 : decode cX7_freeThen 30 = .ok (.getfield 16, 3) := by decide +kernel
theorem dX7_freeThen_33 : decode cX7_freeThen 33 = .ok (.bipush 124, 2) := by decide +kernel
theorem dX7_freeThen_35 : decode cX7_freeThen 35 = .ok (.invokevirtual 180, 3) := by decide +kernel
theorem dX7_freeThen_38 : decode cX7_freeThen 38 = .ok (.pop, 1) := by decide +kernel
theorem dX7_freeThen_39 : decode cX7_freeThen 39 = .ok (.aload_n 0, 1) := by decide +kernel
theorem dX7_freeThen_40 : decode cX7_freeThen 40 = .ok (.getfield 16, 3) := by decide +kernel
theorem dX7_freeThen_43 : decode cX7_freeThen 43 = .ok (.invokevirtual 183, 3) := by decide +kernel
theorem dX7_freeThen_46 : decode cX7_freeThen 46 = .ok (.ireturn, 1) := by decide +kernel
theorem dX7_isHook_0 : decode cX7_isHook 0 = .ok (.iload_n 0, 1) := by decide +kernel
theorem dX7_isHook_1 : decode cX7_isHook 1 = .ok (.ifCond .lt 13, 3) := by decide +kernel
theorem dX7_isHook_4 : decode cX7_isHook 4 = .ok (.iload_n 0, 1) := by decide +kernel
theorem dX7_isHook_5 : decode cX7_isHook 5 = .ok (.bipush 8, 2) := by decide +kernel
theorem dX7_isHook_7 : decode cX7_isHook 7 = .ok (.if_icmp .ge 7, 3) := by decide +kernel
theorem dX7_isHook_10 : decode cX7_isHook 10 = .ok (.iconst 1, 1) := by decide +kernel
theorem dX7_isHook_11 : decode cX7_isHook 11 = .ok (.goto 4, 3) := by decide +kernel
theorem dX7_isHook_14 : decode cX7_isHook 14 = .ok (.iconst 0, 1) := by decide +kernel
theorem dX7_isHook_15 : decode cX7_isHook 15 = .ok (.ireturn, 1) := by decide +kernel
theorem dX7_isName_0 : decode cX7_isName 0 = .ok (.iload_n 0, 1) := by decide +kernel
theorem dX7_isName_1 : decode cX7_isName 1 = .ok (.ifCond .lt 12, 3) := by decide +kernel
theorem dX7_isName_4 : decode cX7_isName 4 = .ok (.iload_n 0, 1) := by decide +kernel
theorem dX7_isName_5 : decode cX7_isName 5 = .ok (.iconst 2, 1) := by decide +kernel
theorem dX7_isName_6 : decode cX7_isName 6 = .ok (.if_icmp .ge 7, 3) := by decide +kernel
theorem dX7_isName_9 : decode cX7_isName 9 = .ok (.iconst 1, 1) := by decide +kernel
theorem dX7_isName_10 : decode cX7_isName 10 = .ok (.goto 4, 3) := by decide +kernel
theorem dX7_isName_13 : decode cX7_isName 13 = .ok (.iconst 0, 1) := by decide +kernel
theorem dX7_isName_14 : decode cX7_isName 14 = .ok (.ireturn, 1) := by decide +kernel
theorem dX7_orNone_0 : decode cX7_orNone 0 = .ok (.iload_n 0, 1) := by decide +kernel
theorem dX7_orNone_1 : decode cX7_orNone 1 = .ok (.sipush 300, 3) := by decide +kernel
theorem dX7_orNone_4 : decode cX7_orNone 4 = .ok (.if_icmp .ne 8, 3) := by decide +kernel
theorem dX7_orNone_7 : decode cX7_orNone 7 = .ok (.bipush (-9), 2) := by decide +kernel
theorem dX7_orNone_9 : decode cX7_orNone 9 = .ok (.goto 4, 3) := by decide +kernel
theorem dX7_orNone_12 : decode cX7_orNone 12 = .ok (.iload_n 0, 1) := by decide +kernel
theorem dX7_orNone_13 : decode cX7_orNone 13 = .ok (.ireturn, 1) := by decide +kernel
set_option maxRecDepth 20000 in
theorem ggX7_recorded_X2_keepDraft : GoodIn wsX7_recorded wsX2_keepDraft := goodIn_r _ [6, 7, 8, 9, 10, 11, 12, 19, 20, 21] (by decide +kernel) (by decide +kernel)
set_option maxRecDepth 20000 in
theorem gX7_recorded_X2_keepDraft : GoodIn wsX7_recorded (wsV RX7 186 RX2 yX2_keepDraft wsX2_keepDraft) := goodIn_app (goodIn_of _ (by decide +kernel)) ggX7_recorded_X2_keepDraft
theorem dX7_recorded_0 : decode cX7_recorded 0 = .ok (.iload_n 1, 1) := by decide +kernel
theorem dX7_recorded_1 : decode cX7_recorded 1 = .ok (.ifCond .lt 10, 3) := by decide +kernel
theorem dX7_recorded_4 : decode cX7_recorded 4 = .ok (.aload_n 0, 1) := by decide +kernel
theorem dX7_recorded_5 : decode cX7_recorded 5 = .ok (.getfield 22, 3) := by decide +kernel
theorem dX7_recorded_8 : decode cX7_recorded 8 = .ok (.invokevirtual 186, 3) := by decide +kernel
theorem dX7_recorded_11 : decode cX7_recorded 11 = .ok (.iload_n 1, 1) := by decide +kernel
theorem dX7_recorded_12 : decode cX7_recorded 12 = .ok (.ireturn, 1) := by decide +kernel
set_option maxRecDepth 20000 in
theorem ggX7_textFailed_X2_restoreDraft : GoodIn wsX7_textFailed wsX2_restoreDraft := goodIn_r _ [7, 8, 9, 10, 11, 6, 12, 13, 14, 15, 16, 17, 18, 19, 20, 21, 22, 23, 24, 25, 26, 27, 28, 29, 30, 31, 32, 33, 34, 35, 36, 37, 38, 39, 40, 41, 42, 43, 44, 45, 46, 47, 48, 49, 50, 51, 52, 53, 54, 55, 56, 57, 64, 65, 66, 67, 68, 69, 70, 71, 72, 73, 74, 75, 76, 77, 78, 79, 80, 81, 82, 83, 84] (by decide +kernel) (by decide +kernel)
set_option maxRecDepth 20000 in
theorem gX7_textFailed_X2_restoreDraft : GoodIn wsX7_textFailed (wsV RX7 189 RX2 yX2_restoreDraft wsX2_restoreDraft) := goodIn_app (goodIn_of _ (by decide +kernel)) ggX7_textFailed_X2_restoreDraft
theorem dX7_textFailed_0 : decode cX7_textFailed 0 = .ok (.aload_n 0, 1) := by decide +kernel
theorem dX7_textFailed_1 : decode cX7_textFailed 1 = .ok (.getfield 22, 3) := by decide +kernel
theorem dX7_textFailed_4 : decode cX7_textFailed 4 = .ok (.aload_n 0, 1) := by decide +kernel
theorem dX7_textFailed_5 : decode cX7_textFailed 5 = .ok (.getfield 12, 3) := by decide +kernel
theorem dX7_textFailed_8 : decode cX7_textFailed 8 = .ok (.invokevirtual 189, 3) := by decide +kernel
theorem dX7_textFailed_11 : decode cX7_textFailed 11 = .ok (.sipush (-1000), 3) := by decide +kernel
theorem dX7_textFailed_14 : decode cX7_textFailed 14 = .ok (.iload_n 1, 1) := by decide +kernel
theorem dX7_textFailed_15 : decode cX7_textFailed 15 = .ok (.isub, 1) := by decide +kernel
theorem dX7_textFailed_16 : decode cX7_textFailed 16 = .ok (.ireturn, 1) := by decide +kernel
theorem dX8_init_0 : decode cX8_init 0 = .ok (.aload_n 0, 1) := by decide +kernel
theorem dX8_init_1 : decode cX8_init 1 = .ok (.invokespecial 1, 3) := by decide +kernel
theorem dX8_init_4 : decode cX8_init 4 = .ok (.aload_n 0, 1) := by decide +kernel
theorem dX8_init_5 : decode cX8_init 5 = .ok (.sipush 1125, 3) := by decide +kernel
theorem dX8_init_8 : decode cX8_init 8 = .ok (.newarray .int, 2) := by decide +kernel
theorem dX8_init_10 : decode cX8_init 10 = .ok (.putfield 7, 3) := by decide +kernel
theorem dX8_init_13 : decode cX8_init 13 = .ok (.aload_n 0, 1) := by decide +kernel
theorem dX8_init_14 : decode cX8_init 14 = .ok (.sipush 5625, 3) := by decide +kernel
theorem dX8_init_17 : decode cX8_init 17 = .ok (.newarray .int, 2) := by decide +kernel
theorem dX8_init_19 : decode cX8_init 19 = .ok (.putfield 13, 3) := by decide +kernel
theorem dX8_init_22 : decode cX8_init 22 = .ok (.aload_n 0, 1) := by decide +kernel
theorem dX8_init_23 : decode cX8_init 23 = .ok (.sipush 1125, 3) := by decide +kernel
theorem dX8_init_26 : decode cX8_init 26 = .ok (.newarray .int, 2) := by decide +kernel
theorem dX8_init_28 : decode cX8_init 28 = .ok (.putfield 16, 3) := by decide +kernel
theorem dX8_init_31 : decode cX8_init 31 = .ok (.aload_n 0, 1) := by decide +kernel
theorem dX8_init_32 : decode cX8_init 32 = .ok (.bipush 80, 2) := by decide +kernel
theorem dX8_init_34 : decode cX8_init 34 = .ok (.newarray .int, 2) := by decide +kernel
theorem dX8_init_36 : decode cX8_init 36 = .ok (.putfield 19, 3) := by decide +kernel
theorem dX8_init_39 : decode cX8_init 39 = .ok (.aload_n 0, 1) := by decide +kernel
theorem dX8_init_40 : decode cX8_init 40 = .ok (.iconst 3, 1) := by decide +kernel
theorem dX8_init_41 : decode cX8_init 41 = .ok (.newarray .int, 2) := by decide +kernel
theorem dX8_init_43 : decode cX8_init 43 = .ok (.putfield 22, 3) := by decide +kernel
theorem dX8_init_46 : decode cX8_init 46 = .ok (.aload_n 0, 1) := by decide +kernel
theorem dX8_init_47 : decode cX8_init 47 = .ok (.sipush 188, 3) := by decide +kernel
theorem dX8_init_50 : decode cX8_init 50 = .ok (.newarray .boolean, 2) := by decide +kernel
theorem dX8_init_52 : decode cX8_init 52 = .ok (.putfield 25, 3) := by decide +kernel
theorem dX8_init_55 : decode cX8_init 55 = .ok (.aload_n 0, 1) := by decide +kernel
theorem dX8_init_56 : decode cX8_init 56 = .ok (.sipush 188, 3) := by decide +kernel
theorem dX8_init_59 : decode cX8_init 59 = .ok (.newarray .int, 2) := by decide +kernel
theorem dX8_init_61 : decode cX8_init 61 = .ok (.putfield 29, 3) := by decide +kernel
theorem dX8_init_64 : decode cX8_init 64 = .ok (.aload_n 0, 1) := by decide +kernel
theorem dX8_init_65 : decode cX8_init 65 = .ok (.getfield 7, 3) := by decide +kernel
theorem dX8_init_68 : decode cX8_init 68 = .ok (.iconst 1, 1) := by decide +kernel
theorem dX8_init_69 : decode cX8_init 69 = .ok (.bipush 6, 2) := by decide +kernel
theorem dX8_init_71 : decode cX8_init 71 = .ok (.iastore, 1) := by decide +kernel
theorem dX8_init_72 : decode cX8_init 72 = .ok (.iconst 0, 1) := by decide +kernel
theorem dX8_init_73 : decode cX8_init 73 = .ok (.istore_n 1, 1) := by decide +kernel
theorem dX8_init_74 : decode cX8_init 74 = .ok (.iload_n 1, 1) := by decide +kernel
theorem dX8_init_75 : decode cX8_init 75 = .ok (.bipush 8, 2) := by decide +kernel
theorem dX8_init_77 : decode cX8_init 77 = .ok (.if_icmp .ge 20, 3) := by decide +kernel
theorem dX8_init_80 : decode cX8_init 80 = .ok (.aload_n 0, 1) := by decide +kernel
theorem dX8_init_81 : decode cX8_init 81 = .ok (.getfield 7, 3) := by decide +kernel
theorem dX8_init_84 : decode cX8_init 84 = .ok (.bipush 9, 2) := by decide +kernel
theorem dX8_init_86 : decode cX8_init 86 = .ok (.iload_n 1, 1) := by decide +kernel
theorem dX8_init_87 : decode cX8_init 87 = .ok (.iadd, 1) := by decide +kernel
theorem dX8_init_88 : decode cX8_init 88 = .ok (.bipush (-9), 2) := by decide +kernel
theorem dX8_init_90 : decode cX8_init 90 = .ok (.iastore, 1) := by decide +kernel
theorem dX8_init_91 : decode cX8_init 91 = .ok (.iinc 1 1, 3) := by decide +kernel
theorem dX8_init_94 : decode cX8_init 94 = .ok (.goto (-20), 3) := by decide +kernel
theorem dX8_init_97 : decode cX8_init 97 = .ok (.return_, 1) := by decide +kernel
theorem dX8_in_0 : decode cX8_in 0 = .ok (.iload_n 0, 1) := by decide +kernel
theorem dX8_in_1 : decode cX8_in 1 = .ok (.iload_n 1, 1) := by decide +kernel
theorem dX8_in_2 : decode cX8_in 2 = .ok (.if_icmp .lt 12, 3) := by decide +kernel
theorem dX8_in_5 : decode cX8_in 5 = .ok (.iload_n 0, 1) := by decide +kernel
theorem dX8_in_6 : decode cX8_in 6 = .ok (.iload_n 2, 1) := by decide +kernel
theorem dX8_in_7 : decode cX8_in 7 = .ok (.if_icmp .gt 7, 3) := by decide +kernel
theorem dX8_in_10 : decode cX8_in 10 = .ok (.iconst 1, 1) := by decide +kernel
theorem dX8_in_11 : decode cX8_in 11 = .ok (.goto 4, 3) := by decide +kernel
theorem dX8_in_14 : decode cX8_in 14 = .ok (.iconst 0, 1) := by decide +kernel
theorem dX8_in_15 : decode cX8_in 15 = .ok (.ireturn, 1) := by decide +kernel
theorem dX8_acts_0 : decode cX8_acts 0 = .ok (.aload_n 0, 1) := by decide +kernel
theorem dX8_acts_1 : decode cX8_acts 1 = .ok (.getfield 32, 3) := by decide +kernel
theorem dX8_acts_4 : decode cX8_acts 4 = .ok (.ifCond .eq 4, 3) := by decide +kernel
theorem dX8_acts_7 : decode cX8_acts 7 = .ok (.return_, 1) := by decide +kernel
theorem dX8_acts_8 : decode cX8_acts 8 = .ok (.aload_n 0, 1) := by decide +kernel
theorem dX8_acts_9 : decode cX8_acts 9 = .ok (.getfield 36, 3) := by decide +kernel
theorem dX8_acts_12 : decode cX8_acts 12 = .ok (.iconst 5, 1) := by decide +kernel
theorem dX8_acts_13 : decode cX8_acts 13 = .ok (.if_icmp .ne 44, 3) := by decide +kernel
theorem dX8_acts_16 : decode cX8_acts 16 = .ok (.iconst 0, 1) := by decide +kernel
theorem dX8_acts_17 : decode cX8_acts 17 = .ok (.istore_n 1, 1) := by decide +kernel
theorem dX8_acts_18 : decode cX8_acts 18 = .ok (.iload_n 1, 1) := by decide +kernel
theorem dX8_acts_19 : decode cX8_acts 19 = .ok (.sipush 4500, 3) := by decide +kernel
theorem dX8_acts_22 : decode cX8_acts 22 = .ok (.if_icmp .ge 25, 3) := by decide +kernel
theorem dX8_acts_25 : decode cX8_acts 25 = .ok (.aload_n 0, 1) := by decide +kernel
theorem dX8_acts_26 : decode cX8_acts 26 = .ok (.getfield 13, 3) := by decide +kernel
theorem dX8_acts_29 : decode cX8_acts 29 = .ok (.iload_n 1, 1) := by decide +kernel
theorem dX8_acts_30 : decode cX8_acts 30 = .ok (.aload_n 0, 1) := by decide +kernel
theorem dX8_acts_31 : decode cX8_acts 31 = .ok (.getfield 13, 3) := by decide +kernel
theorem dX8_acts_34 : decode cX8_acts 34 = .ok (.iload_n 1, 1) := by decide +kernel
theorem dX8_acts_35 : decode cX8_acts 35 = .ok (.sipush 1125, 3) := by decide +kernel
theorem dX8_acts_38 : decode cX8_acts 38 = .ok (.iadd, 1) := by decide +kernel
theorem dX8_acts_39 : decode cX8_acts 39 = .ok (.iaload, 1) := by decide +kernel
theorem dX8_acts_40 : decode cX8_acts 40 = .ok (.iastore, 1) := by decide +kernel
theorem dX8_acts_41 : decode cX8_acts 41 = .ok (.iinc 1 1, 3) := by decide +kernel
theorem dX8_acts_44 : decode cX8_acts 44 = .ok (.goto (-26), 3) := by decide +kernel
theorem dX8_acts_47 : decode cX8_acts 47 = .ok (.aload_n 0, 1) := by decide +kernel
theorem dX8_acts_48 : decode cX8_acts 48 = .ok (.dup, 1) := by decide +kernel
theorem dX8_acts_49 : decode cX8_acts 49 = .ok (.getfield 36, 3) := by decide +kernel
theorem dX8_acts_52 : decode cX8_acts 52 = .ok (.iconst 1, 1) := by decide +kernel
theorem dX8_acts_53 : decode cX8_acts 53 = .ok (.isub, 1) := by decide +kernel
theorem dX8_acts_54 : decode cX8_acts 54 = .ok (.putfield 36, 3) := by decide +kernel
theorem dX8_acts_57 : decode cX8_acts 57 = .ok (.iconst 0, 1) := by decide +kernel
theorem dX8_acts_58 : decode cX8_acts 58 = .ok (.istore_n 1, 1) := by decide +kernel
theorem dX8_acts_59 : decode cX8_acts 59 = .ok (.iload_n 1, 1) := by decide +kernel
theorem dX8_acts_60 : decode cX8_acts 60 = .ok (.sipush 1125, 3) := by decide +kernel
theorem dX8_acts_63 : decode cX8_acts 63 = .ok (.if_icmp .ge 30, 3) := by decide +kernel
theorem dX8_acts_66 : decode cX8_acts 66 = .ok (.aload_n 0, 1) := by decide +kernel
theorem dX8_acts_67 : decode cX8_acts 67 = .ok (.getfield 13, 3) := by decide +kernel
theorem dX8_acts_70 : decode cX8_acts 70 = .ok (.sipush 1125, 3) := by decide +kernel
theorem dX8_acts_73 : decode cX8_acts 73 = .ok (.aload_n 0, 1) := by decide +kernel
theorem dX8_acts_74 : decode cX8_acts 74 = .ok (.getfield 36, 3) := by decide +kernel
theorem dX8_acts_77 : decode cX8_acts 77 = .ok (.imul, 1) := by decide +kernel
theorem dX8_acts_78 : decode cX8_acts 78 = .ok (.iload_n 1, 1) := by decide +kernel
theorem dX8_acts_79 : decode cX8_acts 79 = .ok (.iadd, 1) := by decide +kernel
theorem dX8_acts_80 : decode cX8_acts 80 = .ok (.aload_n 0, 1) := by decide +kernel
theorem dX8_acts_81 : decode cX8_acts 81 = .ok (.getfield 7, 3) := by decide +kernel
theorem dX8_acts_84 : decode cX8_acts 84 = .ok (.iload_n 1, 1) := by decide +kernel
theorem dX8_acts_85 : decode cX8_acts 85 = .ok (.iaload, 1) := by decide +kernel
theorem dX8_acts_86 : decode cX8_acts 86 = .ok (.iastore, 1) := by decide +kernel
theorem dX8_acts_87 : decode cX8_acts 87 = .ok (.iinc 1 1, 3) := by decide +kernel
theorem dX8_acts_90 : decode cX8_acts 90 = .ok (.goto (-31), 3) := by decide +kernel
theorem dX8_acts_93 : decode cX8_acts 93 = .ok (.aload_n 0, 1) := by decide +kernel
theorem dX8_acts_94 : decode cX8_acts 94 = .ok (.dup, 1) := by decide +kernel
theorem dX8_acts_95 : decode cX8_acts 95 = .ok (.getfield 36, 3) := by decide +kernel
theorem dX8_acts_98 : decode cX8_acts 98 = .ok (.iconst 1, 1) := by decide +kernel
theorem dX8_acts_99 : decode cX8_acts 99 = .ok (.iadd, 1) := by decide +kernel
theorem dX8_acts_100 : decode cX8_acts 100 = .ok (.putfield 36, 3) := by decide +kernel
theorem dX8_acts_103 : decode cX8_acts 103 = .ok (.return_, 1) := by decide +kernel
set_option maxRecDepth 20000 in
theorem ggX8_isHook_X8_in : GoodIn wsX8_isHook wsX8_in := goodIn_r _ [4] (by decide +kernel) (by decide +kernel)
set_option maxRecDepth 20000 in
theorem gX8_isHook_X8_in : GoodIn wsX8_isHook (va_wsS RX8 40 yX8_in wsX8_in) := goodIn_app (goodIn_of _ (by decide +kernel)) ggX8_isHook_X8_in
theorem dX8_isHook_0 : decode cX8_isHook 0 = .ok (.iload_n 0, 1) := by decide +kernel
theorem dX8_isHook_1 : decode cX8_isHook 1 = .ok (.iconst 0, 1) := by decide +kernel
theorem dX8_isHook_2 : decode cX8_isHook 2 = .ok (.bipush 7, 2) := by decide +kernel
theorem dX8_isHook_4 : decode cX8_isHook 4 = .ok (.invokestatic 40, 3) := by decide +kernel
theorem dX8_isHook_7 : decode cX8_isHook 7 = .ok (.ireturn, 1) := by decide +kernel
theorem dX8_isThing_0 : decode cX8_isThing 0 = .ok (.iload_n 1, 1) := by decide +kernel
theorem dX8_isThing_1 : decode cX8_isThing 1 = .ok (.ifCond .lt 17, 3) := by decide +kernel
theorem dX8_isThing_4 : decode cX8_isThing 4 = .ok (.iload_n 1, 1) := by decide +kernel
theorem dX8_isThing_5 : decode cX8_isThing 5 = .ok (.aload_n 0, 1) := by decide +kernel
theorem dX8_isThing_6 : decode cX8_isThing 6 = .ok (.getfield 7, 3) := by decide +kernel
theorem dX8_isThing_9 : decode cX8_isThing 9 = .ok (.iconst 0, 1) := by decide +kernel
theorem dX8_isThing_10 : decode cX8_isThing 10 = .ok (.iaload, 1) := by decide +kernel
theorem dX8_isThing_11 : decode cX8_isThing 11 = .ok (.if_icmp .ge 7, 3) := by decide +kernel
theorem dX8_isThing_14 : decode cX8_isThing 14 = .ok (.iconst 1, 1) := by decide +kernel
theorem dX8_isThing_15 : decode cX8_isThing 15 = .ok (.goto 4, 3) := by decide +kernel
theorem dX8_isThing_18 : decode cX8_isThing 18 = .ok (.iconst 0, 1) := by decide +kernel
theorem dX8_isThing_19 : decode cX8_isThing 19 = .ok (.ireturn, 1) := by decide +kernel
theorem dX8_isAddress_0 : decode cX8_isAddress 0 = .ok (.iload_n 0, 1) := by decide +kernel
theorem dX8_isAddress_1 : decode cX8_isAddress 1 = .ok (.ifCond .lt 41, 3) := by decide +kernel
theorem dX8_isAddress_4 : decode cX8_isAddress 4 = .ok (.iload_n 0, 1) := by decide +kernel
theorem dX8_isAddress_5 : decode cX8_isAddress 5 = .ok (.bipush 100, 2) := by decide +kernel
theorem dX8_isAddress_7 : decode cX8_isAddress 7 = .ok (.idiv, 1) := by decide +kernel
theorem dX8_isAddress_8 : decode cX8_isAddress 8 = .ok (.iconst 2, 1) := by decide +kernel
theorem dX8_isAddress_9 : decode cX8_isAddress 9 = .ok (.if_icmp .ge 12, 3) := by decide +kernel
theorem dX8_isAddress_12 : decode cX8_isAddress 12 = .ok (.iload_n 0, 1) := by decide +kernel
theorem dX8_isAddress_13 : decode cX8_isAddress 13 = .ok (.bipush 100, 2) := by decide +kernel
theorem dX8_isAddress_15 : decode cX8_isAddress 15 = .ok (.irem, 1) := by decide +kernel
theorem dX8_isAddress_16 : decode cX8_isAddress 16 = .ok (.bipush 64, 2) := by decide +kernel
theorem dX8_isAddress_18 : decode cX8_isAddress 18 = .ok (.if_icmp .lt 20, 3) := by decide +kernel
theorem dX8_isAddress_21 : decode cX8_isAddress 21 = .ok (.iload_n 0, 1) := by decide +kernel
theorem dX8_isAddress_22 : decode cX8_isAddress 22 = .ok (.bipush 100, 2) := by decide +kernel
theorem dX8_isAddress_24 : decode cX8_isAddress 24 = .ok (.idiv, 1) := by decide +kernel
theorem dX8_isAddress_25 : decode cX8_isAddress 25 = .ok (.iconst 2, 1) := by decide +kernel
theorem dX8_isAddress_26 : decode cX8_isAddress 26 = .ok (.if_icmp .ne 16, 3) := by decide +kernel
theorem dX8_isAddress_29 : decode cX8_isAddress 29 = .ok (.iload_n 0, 1) := by decide +kernel
theorem dX8_isAddress_30 : decode cX8_isAddress 30 = .ok (.bipush 100, 2) := by decide +kernel
theorem dX8_isAddress_32 : decode cX8_isAddress 32 = .ok (.irem, 1) := by decide +kernel
theorem dX8_isAddress_33 : decode cX8_isAddress 33 = .ok (.bipush 60, 2) := by decide +kernel
theorem dX8_isAddress_35 : decode cX8_isAddress 35 = .ok (.if_icmp .ge 7, 3) := by decide +kernel
theorem dX8_isAddress_38 : decode cX8_isAddress 38 = .ok (.iconst 1, 1) := by decide +kernel
theorem dX8_isAddress_39 : decode cX8_isAddress 39 = .ok (.goto 4, 3) := by decide +kernel
theorem dX8_isAddress_42 : decode cX8_isAddress 42 = .ok (.iconst 0, 1) := by decide +kernel
theorem dX8_isAddress_43 : decode cX8_isAddress 43 = .ok (.ireturn, 1) := by decide +kernel
theorem dX8_cell_0 : decode cX8_cell 0 = .ok (.bipush 64, 2) := by decide +kernel
theorem dX8_cell_2 : decode cX8_cell 2 = .ok (.iload_n 0, 1) := by decide +kernel
theorem dX8_cell_3 : decode cX8_cell 3 = .ok (.bipush 100, 2) := by decide +kernel
theorem dX8_cell_5 : decode cX8_cell 5 = .ok (.idiv, 1) := by decide +kernel
theorem dX8_cell_6 : decode cX8_cell 6 = .ok (.imul, 1) := by decide +kernel
theorem dX8_cell_7 : decode cX8_cell 7 = .ok (.iload_n 0, 1) := by decide +kernel
theorem dX8_cell_8 : decode cX8_cell 8 = .ok (.bipush 100, 2) := by decide +kernel
theorem dX8_cell_10 : decode cX8_cell 10 = .ok (.irem, 1) := by decide +kernel
theorem dX8_cell_11 : decode cX8_cell 11 = .ok (.iadd, 1) := by decide +kernel
theorem dX8_cell_12 : decode cX8_cell 12 = .ok (.ireturn, 1) := by decide +kernel
theorem dX8_address_0 : decode cX8_address 0 = .ok (.bipush 100, 2) := by decide +kernel
theorem dX8_address_2 : decode cX8_address 2 = .ok (.iload_n 0, 1) := by decide +kernel
theorem dX8_address_3 : decode cX8_address 3 = .ok (.bipush 64, 2) := by decide +kernel
theorem dX8_address_5 : decode cX8_address 5 = .ok (.idiv, 1) := by decide +kernel
theorem dX8_address_6 : decode cX8_address 6 = .ok (.imul, 1) := by decide +kernel
theorem dX8_address_7 : decode cX8_address 7 = .ok (.iload_n 0, 1) := by decide +kernel
theorem dX8_address_8 : decode cX8_address 8 = .ok (.bipush 64, 2) := by decide +kernel
theorem dX8_address_10 : decode cX8_address 10 = .ok (.irem, 1) := by decide +kernel
theorem dX8_address_11 : decode cX8_address 11 = .ok (.iadd, 1) := by decide +kernel
theorem dX8_address_12 : decode cX8_address 12 = .ok (.ireturn, 1) := by decide +kernel
theorem dX8_ofCopy_0 : decode cX8_ofCopy 0 = .ok (.aload_n 0, 1) := by decide +kernel
theorem dX8_ofCopy_1 : decode cX8_ofCopy 1 = .ok (.getfield 7, 3) := by decide +kernel
theorem dX8_ofCopy_4 : decode cX8_ofCopy 4 = .ok (.sipush 185, 3) := by decide +kernel
theorem dX8_ofCopy_7 : decode cX8_ofCopy 7 = .ok (.iconst 5, 1) := by decide +kernel
theorem dX8_ofCopy_8 : decode cX8_ofCopy 8 = .ok (.iload_n 1, 1) := by decide +kernel
theorem dX8_ofCopy_9 : decode cX8_ofCopy 9 = .ok (.imul, 1) := by decide +kernel
theorem dX8_ofCopy_10 : decode cX8_ofCopy 10 = .ok (.iadd, 1) := by decide +kernel
theorem dX8_ofCopy_11 : decode cX8_ofCopy 11 = .ok (.iload_n 2, 1) := by decide +kernel
theorem dX8_ofCopy_12 : decode cX8_ofCopy 12 = .ok (.iadd, 1) := by decide +kernel
theorem dX8_ofCopy_13 : decode cX8_ofCopy 13 = .ok (.iaload, 1) := by decide +kernel
theorem dX8_ofCopy_14 : decode cX8_ofCopy 14 = .ok (.ireturn, 1) := by decide +kernel
set_option maxRecDepth 20000 in
theorem ggX8_isCopy_X8_ofCopy : GoodIn wsX8_isCopy wsX8_ofCopy := goodIn_r _ [5, 6, 7, 8, 9, 10, 11, 12, 13, 14, 15, 16, 17, 18] (by decide +kernel) (by decide +kernel)
set_option maxRecDepth 20000 in
theorem gX8_isCopy_X8_ofCopy : GoodIn wsX8_isCopy (wsV RX8 44 RX8 yX8_ofCopy wsX8_ofCopy) := goodIn_app (goodIn_of _ (by decide +kernel)) ggX8_isCopy_X8_ofCopy
theorem dX8_isCopy_0 : decode cX8_isCopy 0 = .ok (.aload_n 0, 1) := by decide +kernel
theorem dX8_isCopy_1 : decode cX8_isCopy 1 = .ok (.iload_n 1, 1) := by decide +kernel
theorem dX8_isCopy_2 : decode cX8_isCopy 2 = .ok (.iconst 0, 1) := by decide +kernel
theorem dX8_isCopy_3 : decode cX8_isCopy 3 = .ok (.invokevirtual 44, 3) := by decide +kernel
theorem dX8_isCopy_6 : decode cX8_isCopy 6 = .ok (.ifCond .le 7, 3) := by decide +kernel
theorem dX8_isCopy_9 : decode cX8_isCopy 9 = .ok (.iconst 1, 1) := by decide +kernel
theorem dX8_isCopy_10 : decode cX8_isCopy 10 = .ok (.goto 4, 3) := by decide +kernel
theorem dX8_isCopy_13 : decode cX8_isCopy 13 = .ok (.iconst 0, 1) := by decide +kernel
theorem dX8_isCopy_14 : decode cX8_isCopy 14 = .ok (.ireturn, 1) := by decide +kernel
set_option maxRecDepth 20000 in
theorem ggX8_sizeAt_X8_isCopy : GoodIn wsX8_sizeAt wsX8_isCopy := goodIn_r _ [6, 7, 8, 9, 5, 10, 1, 11, 12, 13, 14, 15, 16, 17, 18, 19, 20, 21, 22] (by decide +kernel) (by decide +kernel)
set_option maxRecDepth 20000 in
theorem gX8_sizeAt_X8_isCopy : GoodIn wsX8_sizeAt (wsV RX8 48 RX8 yX8_isCopy wsX8_isCopy) := goodIn_app (goodIn_of _ (by decide +kernel)) ggX8_sizeAt_X8_isCopy
set_option maxRecDepth 20000 in
theorem ggX8_sizeAt_X8_ofCopy : GoodIn wsX8_sizeAt wsX8_ofCopy := goodIn_r _ [10, 1, 11, 12, 13, 14, 15, 16, 17, 18, 19, 20, 21, 22] (by decide +kernel) (by decide +kernel)
set_option maxRecDepth 20000 in
theorem gX8_sizeAt_X8_ofCopy : GoodIn wsX8_sizeAt (wsV RX8 44 RX8 yX8_ofCopy wsX8_ofCopy) := goodIn_app (goodIn_of _ (by decide +kernel)) ggX8_sizeAt_X8_ofCopy
theorem dX8_sizeAt_0 : decode cX8_sizeAt 0 = .ok (.aload_n 0, 1) := by decide +kernel
theorem dX8_sizeAt_1 : decode cX8_sizeAt 1 = .ok (.iload_n 1, 1) := by decide +kernel
theorem dX8_sizeAt_2 : decode cX8_sizeAt 2 = .ok (.invokevirtual 48, 3) := by decide +kernel
theorem dX8_sizeAt_5 : decode cX8_sizeAt 5 = .ok (.ifCond .eq 22, 3) := by decide +kernel
theorem dX8_sizeAt_8 : decode cX8_sizeAt 8 = .ok (.aload_n 0, 1) := by decide +kernel
theorem dX8_sizeAt_9 : decode cX8_sizeAt 9 = .ok (.getfield 7, 3) := by decide +kernel
theorem dX8_sizeAt_12 : decode cX8_sizeAt 12 = .ok (.bipush 17, 2) := by decide +kernel
theorem dX8_sizeAt_14 : decode cX8_sizeAt 14 = .ok (.aload_n 0, 1) := by decide +kernel
theorem dX8_sizeAt_15 : decode cX8_sizeAt 15 = .ok (.iload_n 1, 1) := by decide +kernel
theorem dX8_sizeAt_16 : decode cX8_sizeAt 16 = .ok (.iconst 0, 1) := by decide +kernel
theorem dX8_sizeAt_17 : decode cX8_sizeAt 17 = .ok (.invokevirtual 44, 3) := by decide +kernel
theorem dX8_sizeAt_20 : decode cX8_sizeAt 20 = .ok (.iadd, 1) := by decide +kernel
theorem dX8_sizeAt_21 : decode cX8_sizeAt 21 = .ok (.iconst 1, 1) := by decide +kernel
theorem dX8_sizeAt_22 : decode cX8_sizeAt 22 = .ok (.isub, 1) := by decide +kernel
theorem dX8_sizeAt_23 : decode cX8_sizeAt 23 = .ok (.iaload, 1) := by decide +kernel
theorem dX8_sizeAt_24 : decode cX8_sizeAt 24 = .ok (.goto 4, 3) := by decide +kernel
theorem dX8_sizeAt_27 : decode cX8_sizeAt 27 = .ok (.iconst 0, 1) := by decide +kernel
theorem dX8_sizeAt_28 : decode cX8_sizeAt 28 = .ok (.ireturn, 1) := by decide +kernel
theorem dX8_isMoving_0 : decode cX8_isMoving 0 = .ok (.aload_n 0, 1) := by decide +kernel
theorem dX8_isMoving_1 : decode cX8_isMoving 1 = .ok (.getfield 7, 3) := by decide +kernel
theorem dX8_isMoving_4 : decode cX8_isMoving 4 = .ok (.iconst 2, 1) := by decide +kernel
theorem dX8_isMoving_5 : decode cX8_isMoving 5 = .ok (.iaload, 1) := by decide +kernel
theorem dX8_isMoving_6 : decode cX8_isMoving 6 = .ok (.iconst 1, 1) := by decide +kernel
theorem dX8_isMoving_7 : decode cX8_isMoving 7 = .ok (.if_icmp .ne 7, 3) := by decide +kernel
theorem dX8_isMoving_10 : decode cX8_isMoving 10 = .ok (.iconst 1, 1) := by decide +kernel
theorem dX8_isMoving_11 : decode cX8_isMoving 11 = .ok (.goto 4, 3) := by decide +kernel
theorem dX8_isMoving_14 : decode cX8_isMoving 14 = .ok (.iconst 0, 1) := by decide +kernel
theorem dX8_isMoving_15 : decode cX8_isMoving 15 = .ok (.ireturn, 1) := by decide +kernel
theorem dX8_old_0 : decode cX8_old 0 = .ok (.iconst 1, 1) := by decide +kernel
theorem dX8_old_1 : decode cX8_old 1 = .ok (.aload_n 0, 1) := by decide +kernel
theorem dX8_old_2 : decode cX8_old 2 = .ok (.getfield 7, 3) := by decide +kernel
theorem dX8_old_5 : decode cX8_old 5 = .ok (.iconst 3, 1) := by decide +kernel
theorem dX8_old_6 : decode cX8_old 6 = .ok (.iaload, 1) := by decide +kernel
theorem dX8_old_7 : decode cX8_old 7 = .ok (.isub, 1) := by decide +kernel
theorem dX8_old_8 : decode cX8_old 8 = .ok (.ireturn, 1) := by decide +kernel
theorem dX8_free_0 : decode cX8_free 0 = .ok (.bipush 64, 2) := by decide +kernel
theorem dX8_free_2 : decode cX8_free 2 = .ok (.aload_n 0, 1) := by decide +kernel
theorem dX8_free_3 : decode cX8_free 3 = .ok (.getfield 7, 3) := by decide +kernel
theorem dX8_free_6 : decode cX8_free 6 = .ok (.iconst 4, 1) := by decide +kernel
theorem dX8_free_7 : decode cX8_free 7 = .ok (.iload_n 1, 1) := by decide +kernel
theorem dX8_free_8 : decode cX8_free 8 = .ok (.iadd, 1) := by decide +kernel
theorem dX8_free_9 : decode cX8_free 9 = .ok (.iaload, 1) := by decide +kernel
theorem dX8_free_10 : decode cX8_free 10 = .ok (.isub, 1) := by decide +kernel
theorem dX8_free_11 : decode cX8_free 11 = .ok (.ireturn, 1) := by decide +kernel
set_option maxRecDepth 20000 in
theorem ggX8_kept_X8_old : GoodIn wsX8_kept wsX8_old := goodIn_r _ [5, 6, 23, 24, 25, 26, 27, 28, 29, 30, 31, 32, 33, 34] (by decide +kernel) (by decide +kernel)
set_option maxRecDepth 20000 in
theorem gX8_kept_X8_old : GoodIn wsX8_kept (wsV RX8 52 RX8 yX8_old wsX8_old) := goodIn_app (goodIn_of _ (by decide +kernel)) ggX8_kept_X8_old
set_option maxRecDepth 20000 in
theorem ggX8_kept_X8_isMoving : GoodIn wsX8_kept wsX8_isMoving := goodIn_r _ [10, 6, 23, 24, 25, 26, 27, 28, 29, 30, 31, 32, 33, 34] (by decide +kernel) (by decide +kernel)
set_option maxRecDepth 20000 in
theorem gX8_kept_X8_isMoving : GoodIn wsX8_kept (wsV RX8 56 RX8 yX8_isMoving wsX8_isMoving) := goodIn_app (goodIn_of _ (by decide +kernel)) ggX8_kept_X8_isMoving
set_option maxRecDepth 20000 in
theorem ggX8_kept_X8_isCopy : GoodIn wsX8_kept wsX8_isCopy := goodIn_r _ [14, 15, 16, 17, 4, 18, 6, 23, 24, 25, 26, 27, 28, 29, 30, 31, 32, 33, 34] (by decide +kernel) (by decide +kernel)
set_option maxRecDepth 20000 in
theorem gX8_kept_X8_isCopy : GoodIn wsX8_kept (wsV RX8 48 RX8 yX8_isCopy wsX8_isCopy) := goodIn_app (goodIn_of _ (by decide +kernel)) ggX8_kept_X8_isCopy
set_option maxRecDepth 20000 in
theorem ggX8_kept_X8_ofCopy : GoodIn wsX8_kept wsX8_ofCopy := goodIn_r _ [18, 6, 23, 24, 25, 26, 27, 28, 29, 30, 31, 32, 33, 34] (by decide +kernel) (by decide +kernel)
set_option maxRecDepth 20000 in
theorem gX8_kept_X8_ofCopy : GoodIn wsX8_kept (wsV RX8 44 RX8 yX8_ofCopy wsX8_ofCopy) := goodIn_app (goodIn_of _ (by decide +kernel)) ggX8_kept_X8_ofCopy
set_option maxRecDepth 20000 in
theorem ggX8_kept_X8_sizeAt : GoodIn wsX8_kept wsX8_sizeAt := goodIn_r _ [22, 6, 11, 12, 13, 4, 14, 15, 16, 17, 18, 23, 24, 25, 26, 27, 28, 29, 30, 31, 32, 33, 34] (by decide +kernel) (by decide +kernel)
set_option maxRecDepth 20000 in
theorem gX8_kept_X8_sizeAt : GoodIn wsX8_kept (wsV RX8 60 RX8 yX8_sizeAt wsX8_sizeAt) := goodIn_app (goodIn_of _ (by decide +kernel)) ggX8_kept_X8_sizeAt
