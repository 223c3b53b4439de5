theorem dX8_copy_29 : decode cX8_copy 29 = .ok (.iload_n 1, 1) := by decide +kernel
theorem dX8_copy_30 : decode cX8_copy 30 = .ok (.invokestatic 79, 3) := by decide +kernel
theorem dX8_copy_33 : decode cX8_copy 33 = .ok (.istore_n 3, 1) := by decide +kernel
theorem dX8_copy_34 : decode cX8_copy 34 = .ok (.iload_n 2, 1) := by decide +kernel
theorem dX8_copy_35 : decode cX8_copy 35 = .ok (.tableswitch 58 0 3 #[29, 38, 44, 51], 29) := by decide +kernel
theorem dX8_copy_64 : decode cX8_copy 64 = .ok (.aload_n 0, 1) := by decide +kernel
theorem dX8_copy_65 : decode cX8_copy 65 = .ok (.iload_n 3, 1) := by decide +kernel
theorem dX8_copy_66 : decode cX8_copy 66 = .ok (.iconst 0, 1) := by decide +kernel
theorem dX8_copy_67 : decode cX8_copy 67 = .ok (.invokevirtual 44, 3) := by decide +kernel
theorem dX8_copy_70 : decode cX8_copy 70 = .ok (.iconst 1, 1) := by decide +kernel
theorem dX8_copy_71 : decode cX8_copy 71 = .ok (.isub, 1) := by decide +kernel
theorem dX8_copy_72 : decode cX8_copy 72 = .ok (.ireturn, 1) := by decide +kernel
theorem dX8_copy_73 : decode cX8_copy 73 = .ok (.aload_n 0, 1) := by decide +kernel
theorem dX8_copy_74 : decode cX8_copy 74 = .ok (.iload_n 3, 1) := by decide +kernel
theorem dX8_copy_75 : decode cX8_copy 75 = .ok (.invokevirtual 60, 3) := by decide +kernel
theorem dX8_copy_78 : decode cX8_copy 78 = .ok (.ireturn, 1) := by decide +kernel
theorem dX8_copy_79 : decode cX8_copy 79 = .ok (.aload_n 0, 1) := by decide +kernel
theorem dX8_copy_80 : decode cX8_copy 80 = .ok (.iload_n 3, 1) := by decide +kernel
theorem dX8_copy_81 : decode cX8_copy 81 = .ok (.iconst 3, 1) := by decide +kernel
theorem dX8_copy_82 : decode cX8_copy 82 = .ok (.invokevirtual 44, 3) := by decide +kernel
theorem dX8_copy_85 : decode cX8_copy 85 = .ok (.ireturn, 1) := by decide +kernel
theorem dX8_copy_86 : decode cX8_copy 86 = .ok (.aload_n 0, 1) := by decide +kernel
theorem dX8_copy_87 : decode cX8_copy 87 = .ok (.iload_n 3, 1) := by decide +kernel
theorem dX8_copy_88 : decode cX8_copy 88 = .ok (.iconst 4, 1) := by decide +kernel
theorem dX8_copy_89 : decode cX8_copy 89 = .ok (.invokevirtual 44, 3) := by decide +kernel
theorem dX8_copy_92 : decode cX8_copy 92 = .ok (.ireturn, 1) := by decide +kernel
theorem dX8_copy_93 : decode cX8_copy 93 = .ok (.aload_n 0, 1) := by decide +kernel
theorem dX8_copy_94 : decode cX8_copy 94 = .ok (.iload_n 3, 1) := by decide +kernel
theorem dX8_copy_95 : decode cX8_copy 95 = .ok (.iconst 1, 1) := by decide +kernel
theorem dX8_copy_96 : decode cX8_copy 96 = .ok (.iload_n 2, 1) := by decide +kernel
theorem dX8_copy_97 : decode cX8_copy 97 = .ok (.iadd, 1) := by decide +kernel
theorem dX8_copy_98 : decode cX8_copy 98 = .ok (.iconst 4, 1) := by decide +kernel
theorem dX8_copy_99 : decode cX8_copy 99 = .ok (.isub, 1) := by decide +kernel
theorem dX8_copy_100 : decode cX8_copy 100 = .ok (.invokevirtual 44, 3) := by decide +kernel
theorem dX8_copy_103 : decode cX8_copy 103 = .ok (.ireturn, 1) := by decide +kernel
set_option maxRecDepth 20000 in
theorem ggX8_where_X8_isThing : GoodIn wsX8_where wsX8_isThing := goodIn_r _ [5, 6, 14, 15, 16, 17, 18, 19, 20, 21, 22, 23, 24, 25] (by decide +kernel) (by decide +kernel)
set_option maxRecDepth 20000 in
theorem gX8_where_X8_isThing : GoodIn wsX8_where (wsV RX8 118 RX8 yX8_isThing wsX8_isThing) := goodIn_app (goodIn_of _ (by decide +kernel)) ggX8_where_X8_isThing
set_option maxRecDepth 20000 in
theorem ggX8_where_X8_ofCopy : GoodIn wsX8_where wsX8_ofCopy := goodIn_r _ [10, 6, 14, 15, 16, 17, 18, 19, 20, 21, 22, 23, 24, 25] (by decide +kernel) (by decide +kernel)
set_option maxRecDepth 20000 in
theorem gX8_where_X8_ofCopy : GoodIn wsX8_where (wsV RX8 44 RX8 yX8_ofCopy wsX8_ofCopy) := goodIn_app (goodIn_of _ (by decide +kernel)) ggX8_where_X8_ofCopy
set_option maxRecDepth 20000 in
theorem ggX8_where_X8_address : GoodIn wsX8_where wsX8_address := goodIn_r _ [13] (by decide +kernel) (by decide +kernel)
set_option maxRecDepth 20000 in
theorem gX8_where_X8_address : GoodIn wsX8_where (va_wsS RX8 76 yX8_address wsX8_address) := goodIn_app (goodIn_of _ (by decide +kernel)) ggX8_where_X8_address
theorem dX8_where_0 : decode cX8_where 0 = .ok (.aload_n 0, 1) := by decide +kernel
theorem dX8_where_1 : decode cX8_where 1 = .ok (.iload_n 1, 1) := by decide +kernel
theorem dX8_where_2 : decode cX8_where 2 = .ok (.invokevirtual 118, 3) := by decide +kernel
theorem dX8_where_5 : decode cX8_where 5 = .ok (.ifCond .eq 7, 3) := by decide +kernel
theorem dX8_where_8 : decode cX8_where 8 = .ok (.iload_n 2, 1) := by decide +kernel
theorem dX8_where_9 : decode cX8_where 9 = .ok (.ifCond .ge 5, 3) := by decide +kernel
theorem dX8_where_12 : decode cX8_where 12 = .ok (.iconst (-1), 1) := by decide +kernel
theorem dX8_where_13 : decode cX8_where 13 = .ok (.ireturn, 1) := by decide +kernel
theorem dX8_where_14 : decode cX8_where 14 = .ok (.iconst 0, 1) := by decide +kernel
theorem dX8_where_15 : decode cX8_where 15 = .ok (.istore_n 3, 1) := by decide +kernel
theorem dX8_where_16 : decode cX8_where 16 = .ok (.iconst 0, 1) := by decide +kernel
theorem dX8_where_17 : decode cX8_where 17 = .ok (.istore 4, 2) := by decide +kernel
theorem dX8_where_19 : decode cX8_where 19 = .ok (.iload 4, 2) := by decide +kernel
theorem dX8_where_21 : decode cX8_where 21 = .ok (.sipush 188, 3) := by decide +kernel
theorem dX8_where_24 : decode cX8_where 24 = .ok (.if_icmp .ge 58, 3) := by decide +kernel
theorem dX8_where_27 : decode cX8_where 27 = .ok (.aload_n 0, 1) := by decide +kernel
theorem dX8_where_28 : decode cX8_where 28 = .ok (.iload 4, 2) := by decide +kernel
theorem dX8_where_30 : decode cX8_where 30 = .ok (.iconst 0, 1) := by decide +kernel
theorem dX8_where_31 : decode cX8_where 31 = .ok (.invokevirtual 44, 3) := by decide +kernel
theorem dX8_where_34 : decode cX8_where 34 = .ok (.iload_n 1, 1) := by decide +kernel
theorem dX8_where_35 : decode cX8_where 35 = .ok (.iconst 1, 1) := by decide +kernel
theorem dX8_where_36 : decode cX8_where 36 = .ok (.iadd, 1) := by decide +kernel
theorem dX8_where_37 : decode cX8_where 37 = .ok (.if_icmp .ne 7, 3) := by decide +kernel
theorem dX8_where_40 : decode cX8_where 40 = .ok (.iconst 1, 1) := by decide +kernel
theorem dX8_where_41 : decode cX8_where 41 = .ok (.goto 4, 3) := by decide +kernel
theorem dX8_where_44 : decode cX8_where 44 = .ok (.iconst 0, 1) := by decide +kernel
theorem dX8_where_45 : decode cX8_where 45 = .ok (.istore 5, 2) := by decide +kernel
theorem dX8_where_47 : decode cX8_where 47 = .ok (.iload 5, 2) := by decide +kernel
theorem dX8_where_49 : decode cX8_where 49 = .ok (.ifCond .eq 14, 3) := by decide +kernel
theorem dX8_where_52 : decode cX8_where 52 = .ok (.iload_n 3, 1) := by decide +kernel
theorem dX8_where_53 : decode cX8_where 53 = .ok (.iload_n 2, 1) := by decide +kernel
theorem dX8_where_54 : decode cX8_where 54 = .ok (.if_icmp .ne 9, 3) := by decide +kernel
theorem dX8_where_57 : decode cX8_where 57 = .ok (.iload 4, 2) := by decide +kernel
theorem dX8_where_59 : decode cX8_where 59 = .ok (.invokestatic 76, 3) := by decide +kernel
theorem dX8_where_62 : decode cX8_where 62 = .ok (.ireturn, 1) := by decide +kernel
theorem dX8_where_63 : decode cX8_where 63 = .ok (.iload_n 3, 1) := by decide +kernel
theorem dX8_where_64 : decode cX8_where 64 = .ok (.iload 5, 2) := by decide +kernel
theorem dX8_where_66 : decode cX8_where 66 = .ok (.ifCond .eq 7, 3) := by decide +kernel
theorem dX8_where_69 : decode cX8_where 69 = .ok (.iconst 1, 1) := by decide +kernel
theorem dX8_where_70 : decode cX8_where 70 = .ok (.goto 4, 3) := by decide +kernel
theorem dX8_where_73 : decode cX8_where 73 = .ok (.iconst 0, 1) := by decide +kernel
theorem dX8_where_74 : decode cX8_where 74 = .ok (.iadd, 1) := by decide +kernel
theorem dX8_where_75 : decode cX8_where 75 = .ok (.istore_n 3, 1) := by decide +kernel
theorem dX8_where_76 : decode cX8_where 76 = .ok (.iinc 4 1, 3) := by decide +kernel
theorem dX8_where_79 : decode cX8_where 79 = .ok (.goto (-60), 3) := by decide +kernel
theorem dX8_where_82 : decode cX8_where 82 = .ok (.bipush (-9), 2) := by decide +kernel
theorem dX8_where_84 : decode cX8_where 84 = .ok (.ireturn, 1) := by decide +kernel
set_option maxRecDepth 20000 in
theorem ggX8_leads_X8_cell : GoodIn wsX8_leads wsX8_cell := goodIn_r _ [7] (by decide +kernel) (by decide +kernel)
set_option maxRecDepth 20000 in
theorem gX8_leads_X8_cell : GoodIn wsX8_leads (va_wsS RX8 79 yX8_cell wsX8_cell) := goodIn_app (goodIn_of _ (by decide +kernel)) ggX8_leads_X8_cell
set_option maxRecDepth 20000 in
theorem ggX8_leads_X8_ofCopy : GoodIn wsX8_leads wsX8_ofCopy := goodIn_r _ [11, 12, 13, 14, 15, 16, 17, 18, 19, 20, 21, 22, 23, 24] (by decide +kernel) (by decide +kernel)
set_option maxRecDepth 20000 in
theorem gX8_leads_X8_ofCopy : GoodIn wsX8_leads (wsV RX8 44 RX8 yX8_ofCopy wsX8_ofCopy) := goodIn_app (goodIn_of _ (by decide +kernel)) ggX8_leads_X8_ofCopy
theorem dX8_leads_0 : decode cX8_leads 0 = .ok (.iload_n 1, 1) := by decide +kernel
theorem dX8_leads_1 : decode cX8_leads 1 = .ok (.bipush (-9), 2) := by decide +kernel
theorem dX8_leads_3 : decode cX8_leads 3 = .ok (.if_icmp .ne 4, 3) := by decide +kernel
theorem dX8_leads_6 : decode cX8_leads 6 = .ok (.return_, 1) := by decide +kernel
theorem dX8_leads_7 : decode cX8_leads 7 = .ok (.iload_n 1, 1) := by decide +kernel
theorem dX8_leads_8 : decode cX8_leads 8 = .ok (.invokestatic 79, 3) := by decide +kernel
theorem dX8_leads_11 : decode cX8_leads 11 = .ok (.istore_n 2, 1) := by decide +kernel
theorem dX8_leads_12 : decode cX8_leads 12 = .ok (.aload_n 0, 1) := by decide +kernel
theorem dX8_leads_13 : decode cX8_leads 13 = .ok (.iload_n 2, 1) := by decide +kernel
theorem dX8_leads_14 : decode cX8_leads 14 = .ok (.iconst 3, 1) := by decide +kernel
theorem dX8_leads_15 : decode cX8_leads 15 = .ok (.invokevirtual 44, 3) := by decide +kernel
theorem dX8_leads_18 : decode cX8_leads 18 = .ok (.bipush (-9), 2) := by decide +kernel
theorem dX8_leads_20 : decode cX8_leads 20 = .ok (.if_icmp .eq 15, 3) := by decide +kernel
theorem dX8_leads_23 : decode cX8_leads 23 = .ok (.aload_n 0, 1) := by decide +kernel
theorem dX8_leads_24 : decode cX8_leads 24 = .ok (.iload_n 2, 1) := by decide +kernel
theorem dX8_leads_25 : decode cX8_leads 25 = .ok (.iconst 3, 1) := by decide +kernel
theorem dX8_leads_26 : decode cX8_leads 26 = .ok (.invokevirtual 44, 3) := by decide +kernel
theorem dX8_leads_29 : decode cX8_leads 29 = .ok (.invokestatic 79, 3) := by decide +kernel
theorem dX8_leads_32 : decode cX8_leads 32 = .ok (.goto 4, 3) := by decide +kernel
theorem dX8_leads_35 : decode cX8_leads 35 = .ok (.iload_n 2, 1) := by decide +kernel
theorem dX8_leads_36 : decode cX8_leads 36 = .ok (.istore_n 2, 1) := by decide +kernel
theorem dX8_leads_37 : decode cX8_leads 37 = .ok (.aload_n 0, 1) := by decide +kernel
theorem dX8_leads_38 : decode cX8_leads 38 = .ok (.getfield 25, 3) := by decide +kernel
theorem dX8_leads_41 : decode cX8_leads 41 = .ok (.iload_n 2, 1) := by decide +kernel
theorem dX8_leads_42 : decode cX8_leads 42 = .ok (.baload, 1) := by decide +kernel
theorem dX8_leads_43 : decode cX8_leads 43 = .ok (.ifCond .ne 30, 3) := by decide +kernel
theorem dX8_leads_46 : decode cX8_leads 46 = .ok (.aload_n 0, 1) := by decide +kernel
theorem dX8_leads_47 : decode cX8_leads 47 = .ok (.getfield 25, 3) := by decide +kernel
theorem dX8_leads_50 : decode cX8_leads 50 = .ok (.iload_n 2, 1) := by decide +kernel
theorem dX8_leads_51 : decode cX8_leads 51 = .ok (.iconst 1, 1) := by decide +kernel
theorem dX8_leads_52 : decode cX8_leads 52 = .ok (.bastore, 1) := by decide +kernel
theorem dX8_leads_53 : decode cX8_leads 53 = .ok (.aload_n 0, 1) := by decide +kernel
theorem dX8_leads_54 : decode cX8_leads 54 = .ok (.getfield 29, 3) := by decide +kernel
theorem dX8_leads_57 : decode cX8_leads 57 = .ok (.aload_n 0, 1) := by decide +kernel
theorem dX8_leads_58 : decode cX8_leads 58 = .ok (.getfield 192, 3) := by decide +kernel
theorem dX8_leads_61 : decode cX8_leads 61 = .ok (.iload_n 2, 1) := by decide +kernel
theorem dX8_leads_62 : decode cX8_leads 62 = .ok (.iastore, 1) := by decide +kernel
theorem dX8_leads_63 : decode cX8_leads 63 = .ok (.aload_n 0, 1) := by decide +kernel
theorem dX8_leads_64 : decode cX8_leads 64 = .ok (.dup, 1) := by decide +kernel
theorem dX8_leads_65 : decode cX8_leads 65 = .ok (.getfield 192, 3) := by decide +kernel
theorem dX8_leads_68 : decode cX8_leads 68 = .ok (.iconst 1, 1) := by decide +kernel
theorem dX8_leads_69 : decode cX8_leads 69 = .ok (.iadd, 1) := by decide +kernel
theorem dX8_leads_70 : decode cX8_leads 70 = .ok (.putfield 192, 3) := by decide +kernel
theorem dX8_leads_73 : decode cX8_leads 73 = .ok (.return_, 1) := by decide +kernel
theorem dX8_forgets_0 : decode cX8_forgets 0 = .ok (.iconst 0, 1) := by decide +kernel
theorem dX8_forgets_1 : decode cX8_forgets 1 = .ok (.istore_n 1, 1) := by decide +kernel
theorem dX8_forgets_2 : decode cX8_forgets 2 = .ok (.iload_n 1, 1) := by decide +kernel
theorem dX8_forgets_3 : decode cX8_forgets 3 = .ok (.sipush 188, 3) := by decide +kernel
theorem dX8_forgets_6 : decode cX8_forgets 6 = .ok (.if_icmp .ge 16, 3) := by decide +kernel
theorem dX8_forgets_9 : decode cX8_forgets 9 = .ok (.aload_n 0, 1) := by decide +kernel
theorem dX8_forgets_10 : decode cX8_forgets 10 = .ok (.getfield 25, 3) := by decide +kernel
theorem dX8_forgets_13 : decode cX8_forgets 13 = .ok (.iload_n 1, 1) := by decide +kernel
theorem dX8_forgets_14 : decode cX8_forgets 14 = .ok (.iconst 0, 1) := by decide +kernel
theorem dX8_forgets_15 : decode cX8_forgets 15 = .ok (.bastore, 1) := by decide +kernel
theorem dX8_forgets_16 : decode cX8_forgets 16 = .ok (.iinc 1 1, 3) := by decide +kernel
theorem dX8_forgets_19 : decode cX8_forgets 19 = .ok (.goto (-17), 3) := by decide +kernel
theorem dX8_forgets_22 : decode cX8_forgets 22 = .ok (.aload_n 0, 1) := by decide +kernel
theorem dX8_forgets_23 : decode cX8_forgets 23 = .ok (.iconst 0, 1) := by decide +kernel
theorem dX8_forgets_24 : decode cX8_forgets 24 = .ok (.putfield 192, 3) := by decide +kernel
theorem dX8_forgets_27 : decode cX8_forgets 27 = .ok (.return_, 1) := by decide +kernel
set_option maxRecDepth 20000 in
theorem ggX8_reaches_X8_ofCopy : GoodIn wsX8_reaches wsX8_ofCopy := goodIn_r _ [7, 8, 17, 18, 19, 20, 21, 22, 23, 24, 25, 26, 27, 28] (by decide +kernel) (by decide +kernel)
set_option maxRecDepth 20000 in
theorem gX8_reaches_X8_ofCopy : GoodIn wsX8_reaches (wsV RX8 44 RX8 yX8_ofCopy wsX8_ofCopy) := goodIn_app (goodIn_of _ (by decide +kernel)) ggX8_reaches_X8_ofCopy
set_option maxRecDepth 20000 in
theorem ggX8_reaches_X8_leads : GoodIn wsX8_reaches wsX8_leads := goodIn_r _ [12, 13, 2, 1, 14, 15, 6, 16, 3, 4, 5, 7, 8, 17, 18, 19, 20, 21, 22, 23, 24, 25, 26, 27, 28] (by decide +kernel) (by decide +kernel)
set_option maxRecDepth 20000 in
theorem gX8_reaches_X8_leads : GoodIn wsX8_reaches (wsV RX8 195 RX8 yX8_leads wsX8_leads) := goodIn_app (goodIn_of _ (by decide +kernel)) ggX8_reaches_X8_leads
theorem dX8_reaches_0 : decode cX8_reaches 0 = .ok (.iconst 0, 1) := by decide +kernel
theorem dX8_reaches_1 : decode cX8_reaches 1 = .ok (.istore_n 1, 1) := by decide +kernel
theorem dX8_reaches_2 : decode cX8_reaches 2 = .ok (.iload_n 1, 1) := by decide +kernel
theorem dX8_reaches_3 : decode cX8_reaches 3 = .ok (.aload_n 0, 1) := by decide +kernel
theorem dX8_reaches_4 : decode cX8_reaches 4 = .ok (.getfield 192, 3) := by decide +kernel
theorem dX8_reaches_7 : decode cX8_reaches 7 = .ok (.if_icmp .ge 39, 3) := by decide +kernel
theorem dX8_reaches_10 : decode cX8_reaches 10 = .ok (.aload_n 0, 1) := by decide +kernel
theorem dX8_reaches_11 : decode cX8_reaches 11 = .ok (.aload_n 0, 1) := by decide +kernel
theorem dX8_reaches_12 : decode cX8_reaches 12 = .ok (.aload_n 0, 1) := by decide +kernel
theorem dX8_reaches_13 : decode cX8_reaches 13 = .ok (.getfield 29, 3) := by decide +kernel
theorem dX8_reaches_16 : decode cX8_reaches 16 = .ok (.iload_n 1, 1) := by decide +kernel
theorem dX8_reaches_17 : decode cX8_reaches 17 = .ok (.iaload, 1) := by decide +kernel
theorem dX8_reaches_18 : decode cX8_reaches 18 = .ok (.iconst 1, 1) := by decide +kernel
theorem dX8_reaches_19 : decode cX8_reaches 19 = .ok (.invokevirtual 44, 3) := by decide +kernel
theorem dX8_reaches_22 : decode cX8_reaches 22 = .ok (.invokevirtual 195, 3) := by decide +kernel
theorem dX8_reaches_25 : decode cX8_reaches 25 = .ok (.aload_n 0, 1) := by decide +kernel
theorem dX8_reaches_26 : decode cX8_reaches 26 = .ok (.aload_n 0, 1) := by decide +kernel
theorem dX8_reaches_27 : decode cX8_reaches 27 = .ok (.aload_n 0, 1) := by decide +kernel
theorem dX8_reaches_28 : decode cX8_reaches 28 = .ok (.getfield 29, 3) := by decide +kernel
theorem dX8_reaches_31 : decode cX8_reaches 31 = .ok (.iload_n 1, 1) := by decide +kernel
theorem dX8_reaches_32 : decode cX8_reaches 32 = .ok (.iaload, 1) := by decide +kernel
theorem dX8_reaches_33 : decode cX8_reaches 33 = .ok (.iconst 2, 1) := by decide +kernel
theorem dX8_reaches_34 : decode cX8_reaches 34 = .ok (.invokevirtual 44, 3) := by decide +kernel
theorem dX8_reaches_37 : decode cX8_reaches 37 = .ok (.invokevirtual 195, 3) := by decide +kernel
theorem dX8_reaches_40 : decode cX8_reaches 40 = .ok (.iinc 1 1, 3) := by decide +kernel
theorem dX8_reaches_43 : decode cX8_reaches 43 = .ok (.goto (-41), 3) := by decide +kernel
theorem dX8_reaches_46 : decode cX8_reaches 46 = .ok (.return_, 1) := by decide +kernel
set_option maxRecDepth 20000 in
theorem ggX8_named_X8_isHook : GoodIn wsX8_named wsX8_isHook := goodIn_r _ [7, 8, 9, 6, 10] (by decide +kernel) (by decide +kernel)
set_option maxRecDepth 20000 in
theorem gX8_named_X8_isHook : GoodIn wsX8_named (va_wsS RX8 97 yX8_isHook wsX8_isHook) := goodIn_app (goodIn_of _ (by decide +kernel)) ggX8_named_X8_isHook
set_option maxRecDepth 20000 in
theorem ggX8_named_X8_forgets : GoodIn wsX8_named wsX8_forgets := goodIn_r _ [14, 15, 2, 31, 32, 33, 34, 35, 36, 37, 38, 39, 40, 41, 42] (by decide +kernel) (by decide +kernel)
set_option maxRecDepth 20000 in
theorem gX8_named_X8_forgets : GoodIn wsX8_named (wsV RX8 198 RX8 yX8_forgets wsX8_forgets) := goodIn_app (goodIn_of _ (by decide +kernel)) ggX8_named_X8_forgets
set_option maxRecDepth 20000 in
theorem ggX8_named_X8_leads : GoodIn wsX8_named wsX8_leads := goodIn_r _ [19, 15, 3, 2, 20, 21, 6, 22, 23, 24, 25, 26, 1, 31, 32, 33, 34, 35, 36, 37, 38, 39, 40, 41, 42] (by decide +kernel) (by decide +kernel)
set_option maxRecDepth 20000 in
theorem gX8_named_X8_leads : GoodIn wsX8_named (wsV RX8 195 RX8 yX8_leads wsX8_leads) := goodIn_app (goodIn_of _ (by decide +kernel)) ggX8_named_X8_leads
set_option maxRecDepth 20000 in
theorem ggX8_named_X8_reaches : GoodIn wsX8_named wsX8_reaches := goodIn_r _ [30, 2, 3, 23, 24, 25, 6, 26, 1, 16, 17, 18, 19, 15, 20, 21, 22, 31, 32, 33, 34, 35, 36, 37, 38, 39, 40, 41, 42] (by decide +kernel) (by decide +kernel)
set_option maxRecDepth 20000 in
theorem gX8_named_X8_reaches : GoodIn wsX8_named (wsV RX8 201 RX8 yX8_reaches wsX8_reaches) := goodIn_app (goodIn_of _ (by decide +kernel)) ggX8_named_X8_reaches
set_option maxRecDepth 20000 in
theorem ggX8_named_X8_ofCopy : GoodIn wsX8_named wsX8_ofCopy := goodIn_r _ [26, 1, 31, 32, 33, 34, 35, 36, 37, 38, 39, 40, 41, 42] (by decide +kernel) (by decide +kernel)
set_option maxRecDepth 20000 in
theorem gX8_named_X8_ofCopy : GoodIn wsX8_named (wsV RX8 44 RX8 yX8_ofCopy wsX8_ofCopy) := goodIn_app (goodIn_of _ (by decide +kernel)) ggX8_named_X8_ofCopy
theorem dX8_named_0 : decode cX8_named 0 = .ok (.iload_n 1, 1) := by decide +kernel
theorem dX8_named_1 : decode cX8_named 1 = .ok (.invokestatic 97, 3) := by decide +kernel
theorem dX8_named_4 : decode cX8_named 4 = .ok (.ifCond .ne 5, 3) := by decide +kernel
theorem dX8_named_7 : decode cX8_named 7 = .ok (.iconst (-1), 1) := by decide +kernel
theorem dX8_named_8 : decode cX8_named 8 = .ok (.ireturn, 1) := by decide +kernel
theorem dX8_named_9 : decode cX8_named 9 = .ok (.aload_n 0, 1) := by decide +kernel
theorem dX8_named_10 : decode cX8_named 10 = .ok (.invokevirtual 198, 3) := by decide +kernel
theorem dX8_named_13 : decode cX8_named 13 = .ok (.aload_n 0, 1) := by decide +kernel
theorem dX8_named_14 : decode cX8_named 14 = .ok (.aload_n 0, 1) := by decide +kernel
theorem dX8_named_15 : decode cX8_named 15 = .ok (.getfield 7, 3) := by decide +kernel
theorem dX8_named_18 : decode cX8_named 18 = .ok (.bipush 9, 2) := by decide +kernel
theorem dX8_named_20 : decode cX8_named 20 = .ok (.iload_n 1, 1) := by decide +kernel
theorem dX8_named_21 : decode cX8_named 21 = .ok (.iadd, 1) := by decide +kernel
theorem dX8_named_22 : decode cX8_named 22 = .ok (.iaload, 1) := by decide +kernel
theorem dX8_named_23 : decode cX8_named 23 = .ok (.invokevirtual 195, 3) := by decide +kernel
theorem dX8_named_26 : decode cX8_named 26 = .ok (.aload_n 0, 1) := by decide +kernel
theorem dX8_named_27 : decode cX8_named 27 = .ok (.invokevirtual 201, 3) := by decide +kernel
theorem dX8_named_30 : decode cX8_named 30 = .ok (.iconst 0, 1) := by decide +kernel
theorem dX8_named_31 : decode cX8_named 31 = .ok (.istore_n 2, 1) := by decide +kernel
theorem dX8_named_32 : decode cX8_named 32 = .ok (.iconst 0, 1) := by decide +kernel
theorem dX8_named_33 : decode cX8_named 33 = .ok (.istore_n 3, 1) := by decide +kernel
theorem dX8_named_34 : decode cX8_named 34 = .ok (.iload_n 3, 1) := by decide +kernel
theorem dX8_named_35 : decode cX8_named 35 = .ok (.aload_n 0, 1) := by decide +kernel
theorem dX8_named_36 : decode cX8_named 36 = .ok (.getfield 192, 3) := by decide +kernel
theorem dX8_named_39 : decode cX8_named 39 = .ok (.if_icmp .ge 78, 3) := by decide +kernel
theorem dX8_named_42 : decode cX8_named 42 = .ok (.iconst 1, 1) := by decide +kernel
theorem dX8_named_43 : decode cX8_named 43 = .ok (.istore 4, 2) := by decide +kernel
theorem dX8_named_45 : decode cX8_named 45 = .ok (.iconst 0, 1) := by decide +kernel
theorem dX8_named_46 : decode cX8_named 46 = .ok (.istore 5, 2) := by decide +kernel
theorem dX8_named_48 : decode cX8_named 48 = .ok (.iload 5, 2) := by decide +kernel
theorem dX8_named_50 : decode cX8_named 50 = .ok (.iload_n 3, 1) := by decide +kernel
theorem dX8_named_51 : decode cX8_named 51 = .ok (.if_icmp .ge 47, 3) := by decide +kernel
theorem dX8_named_54 : decode cX8_named 54 = .ok (.iload 4, 2) := by decide +kernel
theorem dX8_named_56 : decode cX8_named 56 = .ok (.ifCond .eq 33, 3) := by decide +kernel
theorem dX8_named_59 : decode cX8_named 59 = .ok (.aload_n 0, 1) := by decide +kernel
theorem dX8_named_60 : decode cX8_named 60 = .ok (.aload_n 0, 1) := by decide +kernel
theorem dX8_named_61 : decode cX8_named 61 = .ok (.getfield 29, 3) := by decide +kernel
theorem dX8_named_64 : decode cX8_named 64 = .ok (.iload 5, 2) := by decide +kernel
theorem dX8_named_66 : decode cX8_named 66 = .ok (.iaload, 1) := by decide +kernel
theorem dX8_named_67 : decode cX8_named 67 = .ok (.iconst 0, 1) := by decide +kernel
theorem dX8_named_68 : decode cX8_named 68 = .ok (.invokevirtual 44, 3) := by decide +kernel
theorem dX8_named_71 : decode cX8_named 71 = .ok (.aload_n 0, 1) := by decide +kernel
theorem dX8_named_72 : decode cX8_named 72 = .ok (.aload_n 0, 1) := by decide +kernel
theorem dX8_named_73 : decode cX8_named 73 = .ok (.getfield 29, 3) := by decide +kernel
theorem dX8_named_76 : decode cX8_named 76 = .ok (.iload_n 3, 1) := by decide +kernel
theorem dX8_named_77 : decode cX8_named 77 = .ok (.iaload, 1) := by decide +kernel
theorem dX8_named_78 : decode cX8_named 78 = .ok (.iconst 0, 1) := by decide +kernel
theorem dX8_named_79 : decode cX8_named 79 = .ok (.invokevirtual 44, 3) := by decide +kernel
theorem dX8_named_82 : decode cX8_named 82 = .ok (.if_icmp .eq 7, 3) := by decide +kernel
theorem dX8_named_85 : decode cX8_named 85 = .ok (.iconst 1, 1) := by decide +kernel
theorem dX8_named_86 : decode cX8_named 86 = .ok (.goto 4, 3) := by decide +kernel
theorem dX8_named_89 : decode cX8_named 89 = .ok (.iconst 0, 1) := by decide +kernel
theorem dX8_named_90 : decode cX8_named 90 = .ok (.istore 4, 2) := by decide +kernel
theorem dX8_named_92 : decode cX8_named 92 = .ok (.iinc 5 1, 3) := by decide +kernel
theorem dX8_named_95 : decode cX8_named 95 = .ok (.goto (-47), 3) := by decide +kernel
theorem dX8_named_98 : decode cX8_named 98 = .ok (.iload_n 2, 1) := by decide +kernel
theorem dX8_named_99 : decode cX8_named 99 = .ok (.iload 4, 2) := by decide +kernel
theorem dX8_named_101 : decode cX8_named 101 = .ok (.ifCond .eq 7, 3) := by decide +kernel
theorem dX8_named_104 : decode cX8_named 104 = .ok (.iconst 1, 1) := by decide +kernel
theorem dX8_named_105 : decode cX8_named 105 = .ok (.goto 4, 3) := by decide +kernel
theorem dX8_named_108 : decode cX8_named 108 = .ok (.iconst 0, 1) := by decide +kernel
theorem dX8_named_109 : decode cX8_named 109 = .ok (.iadd, 1) := by decide +kernel
theorem dX8_named_110 : decode cX8_named 110 = .ok (.istore_n 2, 1) := by decide +kernel
theorem dX8_named_111 : decode cX8_named 111 = .ok (.iinc 3 1, 3) := by decide +kernel
theorem dX8_named_114 : decode cX8_named 114 = .ok (.goto (-80), 3) := by decide +kernel
theorem dX8_named_117 : decode cX8_named 117 = .ok (.iload_n 2, 1) := by decide +kernel
theorem dX8_named_118 : decode cX8_named 118 = .ok (.ireturn, 1) := by decide +kernel
set_option maxRecDepth 20000 in
theorem ggX8_garbage_X8_forgets : GoodIn wsX8_garbage wsX8_forgets := goodIn_r _ [7, 2, 8, 33, 34, 35, 36, 37, 38, 39, 40, 41, 42, 43, 44] (by decide +kernel) (by decide +kernel)
set_option maxRecDepth 20000 in
theorem gX8_garbage_X8_forgets : GoodIn wsX8_garbage (wsV RX8 198 RX8 yX8_forgets wsX8_forgets) := goodIn_app (goodIn_of _ (by decide +kernel)) ggX8_garbage_X8_forgets
set_option maxRecDepth 20000 in
theorem ggX8_garbage_X8_leads : GoodIn wsX8_garbage wsX8_leads := goodIn_r _ [12, 2, 13, 8, 14, 15, 6, 16, 17, 18, 19, 20, 1, 33, 34, 35, 36, 37, 38, 39, 40, 41, 42, 43, 44] (by decide +kernel) (by decide +kernel)
set_option maxRecDepth 20000 in
theorem gX8_garbage_X8_leads : GoodIn wsX8_garbage (wsV RX8 195 RX8 yX8_leads wsX8_leads) := goodIn_app (goodIn_of _ (by decide +kernel)) ggX8_garbage_X8_leads
set_option maxRecDepth 20000 in
theorem ggX8_garbage_X8_reaches : GoodIn wsX8_garbage wsX8_reaches := goodIn_r _ [24, 8, 13, 17, 18, 19, 6, 20, 1, 9, 10, 11, 12, 2, 14, 15, 16, 33, 34, 35, 36, 37, 38, 39, 40, 41, 42, 43, 44] (by decide +kernel) (by decide +kernel)
set_option maxRecDepth 20000 in
theorem gX8_garbage_X8_reaches : GoodIn wsX8_garbage (wsV RX8 201 RX8 yX8_reaches wsX8_reaches) := goodIn_app (goodIn_of _ (by decide +kernel)) ggX8_garbage_X8_reaches
set_option maxRecDepth 20000 in
theorem ggX8_garbage_X8_isCopy : GoodIn wsX8_garbage wsX8_isCopy := goodIn_r _ [28, 17, 18, 19, 6, 20, 1, 33, 34, 35, 36, 37, 38, 39, 40, 41, 42, 43, 44] (by decide +kernel) (by decide +kernel)
set_option maxRecDepth 20000 in
theorem gX8_garbage_X8_isCopy : GoodIn wsX8_garbage (wsV RX8 48 RX8 yX8_isCopy wsX8_isCopy) := goodIn_app (goodIn_of _ (by decide +kernel)) ggX8_garbage_X8_isCopy
set_option maxRecDepth 20000 in
theorem ggX8_garbage_X8_ofCopy : GoodIn wsX8_garbage wsX8_ofCopy := goodIn_r _ [20, 1, 33, 34, 35, 36, 37, 38, 39, 40, 41, 42, 43, 44] (by decide +kernel) (by decide +kernel)
set_option maxRecDepth 20000 in
theorem gX8_garbage_X8_ofCopy : GoodIn wsX8_garbage (wsV RX8 44 RX8 yX8_ofCopy wsX8_ofCopy) := goodIn_app (goodIn_of _ (by decide +kernel)) ggX8_garbage_X8_ofCopy
set_option maxRecDepth 20000 in
theorem ggX8_garbage_X8_sizeAt : GoodIn wsX8_garbage wsX8_sizeAt := goodIn_r _ [32, 1, 25, 26, 27, 6, 28, 17, 18, 19, 20, 33, 34, 35, 36, 37, 38, 39, 40, 41, 42, 43, 44] (by decide +kernel) (by decide +kernel)
set_option maxRecDepth 20000 in
theorem gX8_garbage_X8_sizeAt : GoodIn wsX8_garbage (wsV RX8 60 RX8 yX8_sizeAt wsX8_sizeAt) := goodIn_app (goodIn_of _ (by decide +kernel)) ggX8_garbage_X8_sizeAt
theorem dX8_garbage_0 : decode cX8_garbage 0 = .ok (.aload_n 0, 1) := by decide +kernel
theorem dX8_garbage_1 : decode cX8_garbage 1 = .ok (.invokevirtual 198, 3) := by decide +kernel
theorem dX8_garbage_4 : decode cX8_garbage 4 = .ok (.iconst 0, 1) := by decide +kernel
theorem dX8_garbage_5 : decode cX8_garbage 5 = .ok (.istore_n 1, 1) := by decide +kernel
theorem dX8_garbage_6 : decode cX8_garbage 6 = .ok (.iload_n 1, 1) := by decide +kernel
theorem dX8_garbage_7 : decode cX8_garbage 7 = .ok (.bipush 8, 2) := by decide +kernel
theorem dX8_garbage_9 : decode cX8_garbage 9 = .ok (.if_icmp .ge 22, 3) := by decide +kernel
theorem dX8_garbage_12 : decode cX8_garbage 12 = .ok (.aload_n 0, 1) := by decide +kernel
theorem dX8_garbage_13 : decode cX8_garbage 13 = .ok (.aload_n 0, 1) := by decide +kernel
theorem dX8_garbage_14 : decode cX8_garbage 14 = .ok (.getfield 7, 3) := by decide +kernel
theorem dX8_garbage_17 : decode cX8_garbage 17 = .ok (.bipush 9, 2) := by decide +kernel
theorem dX8_garbage_19 : decode cX8_garbage 19 = .ok (.iload_n 1, 1) := by decide +kernel
theorem dX8_garbage_20 : decode cX8_garbage 20 = .ok (.iadd, 1) := by decide +kernel
theorem dX8_garbage_21 : decode cX8_garbage 21 = .ok (.iaload, 1) := by decide +kernel
theorem dX8_garbage_22 : decode cX8_garbage 22 = .ok (.invokevirtual 195, 3) := by decide +kernel
theorem dX8_garbage_25 : decode cX8_garbage 25 = .ok (.iinc 1 1, 3) := by decide +kernel
theorem dX8_garbage_28 : decode cX8_garbage 28 = .ok (.goto (-22), 3) := by decide +kernel
theorem dX8_garbage_31 : decode cX8_garbage 31 = .ok (.aload_n 0, 1) := by decide +kernel
theorem dX8_garbage_32 : decode cX8_garbage 32 = .ok (.invokevirtual 201, 3) := by decide +kernel
theorem dX8_garbage_35 : decode cX8_garbage 35 = .ok (.iconst 0, 1) := by decide +kernel
theorem dX8_garbage_36 : decode cX8_garbage 36 = .ok (.istore_n 1, 1) := by decide +kernel
theorem dX8_garbage_37 : decode cX8_garbage 37 = .ok (.iconst 0, 1) := by decide +kernel
theorem dX8_garbage_38 : decode cX8_garbage 38 = .ok (.istore_n 2, 1) := by decide +kernel
theorem dX8_garbage_39 : decode cX8_garbage 39 = .ok (.iload_n 2, 1) := by decide +kernel
theorem dX8_garbage_40 : decode cX8_garbage 40 = .ok (.sipush 188, 3) := by decide +kernel
theorem dX8_garbage_43 : decode cX8_garbage 43 = .ok (.if_icmp .ge 49, 3) := by decide +kernel
theorem dX8_garbage_46 : decode cX8_garbage 46 = .ok (.iload_n 1, 1) := by decide +kernel
theorem dX8_garbage_47 : decode cX8_garbage 47 = .ok (.aload_n 0, 1) := by decide +kernel
theorem dX8_garbage_48 : decode cX8_garbage 48 = .ok (.iload_n 2, 1) := by decide +kernel
theorem dX8_garbage_49 : decode cX8_garbage 49 = .ok (.invokevirtual 48, 3) := by decide +kernel
theorem dX8_garbage_52 : decode cX8_garbage 52 = .ok (.ifCond .eq 31, 3) := by decide +kernel
theorem dX8_garbage_55 : decode cX8_garbage 55 = .ok (.aload_n 0, 1) := by decide +kernel
theorem dX8_garbage_56 : decode cX8_garbage 56 = .ok (.getfield 25, 3) := by decide +kernel
theorem dX8_garbage_59 : decode cX8_garbage 59 = .ok (.iload_n 2, 1) := by decide +kernel
theorem dX8_garbage_60 : decode cX8_garbage 60 = .ok (.baload, 1) := by decide +kernel
theorem dX8_garbage_61 : decode cX8_garbage 61 = .ok (.ifCond .ne 22, 3) := by decide +kernel
theorem dX8_garbage_64 : decode cX8_garbage 64 = .ok (.aload_n 0, 1) := by decide +kernel
theorem dX8_garbage_65 : decode cX8_garbage 65 = .ok (.iload_n 2, 1) := by decide +kernel
theorem dX8_garbage_66 : decode cX8_garbage 66 = .ok (.iconst 3, 1) := by decide +kernel
theorem dX8_garbage_67 : decode cX8_garbage 67 = .ok (.invokevirtual 44, 3) := by decide +kernel
theorem dX8_garbage_70 : decode cX8_garbage 70 = .ok (.bipush (-9), 2) := by decide +kernel
theorem dX8_garbage_72 : decode cX8_garbage 72 = .ok (.if_icmp .ne 11, 3) := by decide +kernel
theorem dX8_garbage_75 : decode cX8_garbage 75 = .ok (.aload_n 0, 1) := by decide +kernel
theorem dX8_garbage_76 : decode cX8_garbage 76 = .ok (.iload_n 2, 1) := by decide +kernel
theorem dX8_garbage_77 : decode cX8_garbage 77 = .ok (.invokevirtual 60, 3) := by decide +kernel
theorem dX8_garbage_80 : decode cX8_garbage 80 = .ok (.goto 4, 3) := by decide +kernel
theorem dX8_garbage_83 : decode cX8_garbage 83 = .ok (.iconst 0, 1) := by decide +kernel
theorem dX8_garbage_84 : decode cX8_garbage 84 = .ok (.iadd, 1) := by decide +kernel
theorem dX8_garbage_85 : decode cX8_garbage 85 = .ok (.istore_n 1, 1) := by decide +kernel
theorem dX8_garbage_86 : decode cX8_garbage 86 = .ok (.iinc 2 1, 3) := by decide +kernel
theorem dX8_garbage_89 : decode cX8_garbage 89 = .ok (.goto (-50), 3) := by decide +kernel
theorem dX8_garbage_92 : decode cX8_garbage 92 = .ok (.iload_n 1, 1) := by decide +kernel
theorem dX8_garbage_93 : decode cX8_garbage 93 = .ok (.ireturn, 1) := by decide +kernel
set_option maxRecDepth 20000 in
theorem ggX8_stepsLeft_X8_isMoving : GoodIn wsX8_stepsLeft wsX8_isMoving := goodIn_r _ [5, 6, 62, 63, 64, 65, 66, 67, 68, 69, 70, 71, 72, 73] (by decide +kernel) (by decide +kernel)
set_option maxRecDepth 20000 in
theorem gX8_stepsLeft_X8_isMoving : GoodIn wsX8_stepsLeft (wsV RX8 56 RX8 yX8_isMoving wsX8_isMoving) := goodIn_app (goodIn_of _ (by decide +kernel)) ggX8_stepsLeft_X8_isMoving
set_option maxRecDepth 20000 in
theorem ggX8_stepsLeft_X8_holds : GoodIn wsX8_stepsLeft wsX8_holds := goodIn_r _ [10, 11, 6, 62, 63, 64, 65, 66, 67, 68, 69, 70, 71, 72, 73] (by decide +kernel) (by decide +kernel)
set_option maxRecDepth 20000 in
theorem gX8_stepsLeft_X8_holds : GoodIn wsX8_stepsLeft (wsV RX8 171 RX8 yX8_holds wsX8_holds) := goodIn_app (goodIn_of _ (by decide +kernel)) ggX8_stepsLeft_X8_holds
set_option maxRecDepth 20000 in
theorem ggX8_stepsLeft_X8_stepsToEnd : GoodIn wsX8_stepsLeft wsX8_stepsToEnd := goodIn_r _ [15, 1, 2, 3, 4, 5, 6, 16, 17, 18, 19, 20, 21, 22, 23, 24, 25, 26, 27, 28, 29, 30, 31, 32, 33, 34, 35, 36, 37, 38, 39, 40, 41, 42, 43, 44, 45, 46, 47, 48, 49, 50, 51, 52, 53, 54, 55, 56, 57, 62, 63, 64, 65, 66, 67, 68, 69, 70, 71, 72, 73] (by decide +kernel) (by decide +kernel)
set_option maxRecDepth 20000 in
theorem gX8_stepsLeft_X8_stepsToEnd : GoodIn wsX8_stepsLeft (wsV RX8 204 RX8 yX8_stepsToEnd wsX8_stepsToEnd) := goodIn_app (goodIn_of _ (by decide +kernel)) ggX8_stepsLeft_X8_stepsToEnd
set_option maxRecDepth 20000 in
theorem ggX8_stepsLeft_X8_exchanges : GoodIn wsX8_stepsLeft wsX8_exchanges := goodIn_r _ [61, 6, 11, 62, 63, 64, 65, 66, 67, 68, 69, 70, 71, 72, 73] (by decide +kernel) (by decide +kernel)
set_option maxRecDepth 20000 in
theorem gX8_stepsLeft_X8_exchanges : GoodIn wsX8_stepsLeft (wsV RX8 177 RX8 yX8_exchanges wsX8_exchanges) := goodIn_app (goodIn_of _ (by decide +kernel)) ggX8_stepsLeft_X8_exchanges
theorem dX8_stepsLeft_0 : decode cX8_stepsLeft 0 = .ok (.aload_n 0, 1) := by decide +kernel
theorem dX8_stepsLeft_1 : decode cX8_stepsLeft 1 = .ok (.invokevirtual 56, 3) := by decide +kernel
theorem dX8_stepsLeft_4 : decode cX8_stepsLeft 4 = .ok (.ifCond .ne 6, 3) := by decide +kernel
theorem dX8_stepsLeft_7 : decode cX8_stepsLeft 7 = .ok (.bipush (-2), 2) := by decide +kernel
theorem dX8_stepsLeft_9 : decode cX8_stepsLeft 9 = .ok (.ireturn, 1) := by decide +kernel
theorem dX8_stepsLeft_10 : decode cX8_stepsLeft 10 = .ok (.aload_n 0, 1) := by decide +kernel
theorem dX8_stepsLeft_11 : decode cX8_stepsLeft 11 = .ok (.invokevirtual 171, 3) := by decide +kernel
theorem dX8_stepsLeft_14 : decode cX8_stepsLeft 14 = .ok (.aload_n 0, 1) := by decide +kernel
theorem dX8_stepsLeft_15 : decode cX8_stepsLeft 15 = .ok (.invokevirtual 204, 3) := by decide +kernel
theorem dX8_stepsLeft_18 : decode cX8_stepsLeft 18 = .ok (.istore_n 1, 1) := by decide +kernel
theorem dX8_stepsLeft_19 : decode cX8_stepsLeft 19 = .ok (.aload_n 0, 1) := by decide +kernel
theorem dX8_stepsLeft_20 : decode cX8_stepsLeft 20 = .ok (.invokevirtual 177, 3) := by decide +kernel
theorem dX8_stepsLeft_23 : decode cX8_stepsLeft 23 = .ok (.iload_n 1, 1) := by decide +kernel
theorem dX8_stepsLeft_24 : decode cX8_stepsLeft 24 = .ok (.ireturn, 1) := by decide +kernel
set_option maxRecDepth 20000 in
theorem ggX8_freeThen_X8_holds : GoodIn wsX8_freeThen wsX8_holds := goodIn_r _ [6, 7, 1, 70, 71, 72, 73, 74, 75, 76, 77, 78, 79, 80, 81] (by decide +kernel) (by decide +kernel)
set_option maxRecDepth 20000 in
theorem gX8_freeThen_X8_holds : GoodIn wsX8_freeThen (wsV RX8 171 RX8 yX8_holds wsX8_holds) := goodIn_app (goodIn_of _ (by decide +kernel)) ggX8_freeThen_X8_holds
set_option maxRecDepth 20000 in
theorem ggX8_freeThen_X8_stepsToEnd : GoodIn wsX8_freeThen wsX8_stepsToEnd := goodIn_r _ [11, 12, 13, 14, 5, 15, 1, 16, 17, 18, 19, 20, 21, 22, 23, 24, 25, 26, 27, 28, 29, 30, 31, 32, 33, 34, 35, 36, 37, 38, 39, 40, 41, 42, 43, 44, 45, 46, 47, 48, 49, 50, 51, 52, 53, 54, 55, 56, 57, 70, 71, 72, 73, 74, 75, 76, 77, 78, 79, 80, 81] (by decide +kernel) (by decide +kernel)
set_option maxRecDepth 20000 in
theorem gX8_freeThen_X8_stepsToEnd : GoodIn wsX8_freeThen (wsV RX8 204 RX8 yX8_stepsToEnd wsX8_stepsToEnd) := goodIn_app (goodIn_of _ (by decide +kernel)) ggX8_freeThen_X8_stepsToEnd
set_option maxRecDepth 20000 in
theorem ggX8_freeThen_X8_begins : GoodIn wsX8_freeThen wsX8_begins := goodIn_r _ [61, 1, 27, 28, 29, 5, 30, 20, 21, 22, 23, 12, 13, 14, 15, 24, 25, 26, 31, 32, 33, 34, 35, 36, 37, 38, 39, 40, 41, 42, 43, 44, 45, 46, 47, 48, 49, 50, 51, 52, 53, 54, 55, 56, 57, 70, 71, 72, 73, 74, 75, 76, 77, 78, 79, 80, 81] (by decide +kernel) (by decide +kernel)
set_option maxRecDepth 20000 in
theorem gX8_freeThen_X8_begins : GoodIn wsX8_freeThen (wsV RX8 115 RX8 yX8_begins wsX8_begins) := goodIn_app (goodIn_of _ (by decide +kernel)) ggX8_freeThen_X8_begins
set_option maxRecDepth 20000 in
theorem ggX8_freeThen_X8_free : GoodIn wsX8_freeThen wsX8_free := goodIn_r _ [65, 1, 70, 71, 72, 73, 74, 75, 76, 77, 78, 79, 80, 81] (by decide +kernel) (by decide +kernel)
set_option maxRecDepth 20000 in
theorem gX8_freeThen_X8_free : GoodIn wsX8_freeThen (wsV RX8 103 RX8 yX8_free wsX8_free) := goodIn_app (goodIn_of _ (by decide +kernel)) ggX8_freeThen_X8_free
set_option maxRecDepth 20000 in
theorem ggX8_freeThen_X8_exchanges : GoodIn wsX8_freeThen wsX8_exchanges := goodIn_r _ [69, 1, 7, 70, 71, 72, 73, 74, 75, 76, 77, 78, 79, 80, 81] (by decide +kernel) (by decide +kernel)
set_option maxRecDepth 20000 in
theorem gX8_freeThen_X8_exchanges : GoodIn wsX8_freeThen (wsV RX8 177 RX8 yX8_exchanges wsX8_exchanges) := goodIn_app (goodIn_of _ (by decide +kernel)) ggX8_freeThen_X8_exchanges
theorem dX8_freeThen_0 : decode cX8_freeThen 0 = .ok (.aload_n 0, 1) := by decide +kernel
theorem dX8_freeThen_1 : decode cX8_freeThen 1 = .ok (.invokevirtual 171, 3) := by decide +kernel
theorem dX8_freeThen_4 : decode cX8_freeThen 4 = .ok (.aload_n 0, 1) := by decide +kernel
theorem dX8_freeThen_5 : decode cX8_freeThen 5 = .ok (.invokevirtual 204, 3) := by decide +kernel
theorem dX8_freeThen_8 : decode cX8_freeThen 8 = .ok (.istore_n 1, 1) := by decide +kernel
theorem dX8_freeThen_9 : decode cX8_freeThen 9 = .ok (.aload_n 0, 1) := by decide +kernel
theorem dX8_freeThen_10 : decode cX8_freeThen 10 = .ok (.invokevirtual 115, 3) := by decide +kernel
theorem dX8_freeThen_13 : decode cX8_freeThen 13 = .ok (.iload_n 1, 1) := by decide +kernel
theorem dX8_freeThen_14 : decode cX8_freeThen 14 = .ok (.aload_n 0, 1) := by decide +kernel
theorem dX8_freeThen_15 : decode cX8_freeThen 15 = .ok (.invokevirtual 204, 3) := by decide +kernel
theorem dX8_freeThen_18 : decode cX8_freeThen 18 = .ok (.iadd, 1) := by decide +kernel
theorem dX8_freeThen_19 : decode cX8_freeThen 19 = .ok (.istore_n 1, 1) := by decide +kernel
theorem dX8_freeThen_20 : decode cX8_freeThen 20 = .ok (.iload_n 1, 1) := by decide +kernel
theorem dX8_freeThen_21 : decode cX8_freeThen 21 = .ok (.ifCond .ge 8, 3) := by decide +kernel
theorem dX8_freeThen_24 : decode cX8_freeThen 24 = .ok (.bipush (-9), 2) := by decide +kernel
theorem dX8_freeThen_26 : decode cX8_freeThen 26 = .ok (.goto 13, 3) := by decide +kernel
theorem dX8_freeThen_29 : decode cX8_freeThen 29 = .ok (.aload_n 0, 1) := by decide +kernel
theorem dX8_freeThen_30 : decode cX8_freeThen 30 = .ok (.aload_n 0, 1) := by decide +kernel
theorem dX8_freeThen_31 : decode cX8_freeThen 31 = .ok (.getfield 7, 3) := by decide +kernel
theorem dX8_freeThen_34 : decode cX8_freeThen 34 = .ok (.iconst 3, 1) := by decide +kernel
theorem dX8_freeThen_35 : decode cX8_freeThen 35 = .ok (.iaload, 1) := by decide +kernel
theorem dX8_freeThen_36 : decode cX8_freeThen 36 = .ok (.invokevirtual 103, 3) := by decide +kernel
theorem dX8_freeThen_39 : decode cX8_freeThen 39 = .ok (.istore_n 2, 1) := by decide +kernel
theorem dX8_freeThen_40 : decode cX8_freeThen 40 = .ok (.aload_n 0, 1) := by decide +kernel
theorem dX8_freeThen_41 : decode cX8_freeThen 41 = .ok (.invokevirtual 177, 3) := by decide +kernel
theorem dX8_freeThen_44 : decode cX8_freeThen 44 = .ok (.iload_n 2, 1) := by decide +kernel
theorem dX8_freeThen_45 : decode cX8_freeThen 45 = .ok (.ireturn, 1) := by decide +kernel
theorem dJ9_floorMod_7cf53_0 : decode cJ9_floorMod_7cf53 0 = .ok (.iload_n 0, 1) := by decide +kernel
theorem dJ9_floorMod_7cf53_1 : decode cJ9_floorMod_7cf53 1 = .ok (.iload_n 1, 1) := by decide +kernel
theorem dJ9_floorMod_7cf53_2 : decode cJ9_floorMod_7cf53 2 = .ok (.irem, 1) := by decide +kernel
theorem dJ9_floorMod_7cf53_3 : decode cJ9_floorMod_7cf53 3 = .ok (.istore_n 2, 1) := by decide +kernel
theorem dJ9_floorMod_7cf53_4 : decode cJ9_floorMod_7cf53 4 = .ok (.iload_n 0, 1) := by decide +kernel
theorem dJ9_floorMod_7cf53_5 : decode cJ9_floorMod_7cf53 5 = .ok (.iload_n 1, 1) := by decide +kernel
theorem dJ9_floorMod_7cf53_6 : decode cJ9_floorMod_7cf53 6 = .ok (.ixor, 1) := by decide +kernel
theorem dJ9_floorMod_7cf53_7 : decode cJ9_floorMod_7cf53 7 = .ok (.ifCond .ge 11, 3) := by decide +kernel
theorem dJ9_floorMod_7cf53_10 : decode cJ9_floorMod_7cf53 10 = .ok (.iload_n 2, 1) := by decide +kernel
theorem dJ9_floorMod_7cf53_11 : decode cJ9_floorMod_7cf53 11 = .ok (.ifCond .eq 7, 3) := by decide +kernel
theorem dJ9_floorMod_7cf53_14 : decode cJ9_floorMod_7cf53 14 = .ok (.iload_n 2, 1) := by decide +kernel
theorem dJ9_floorMod_7cf53_15 : decode cJ9_floorMod_7cf53 15 = .ok (.iload_n 1, 1) := by decide +kernel
theorem dJ9_floorMod_7cf53_16 : decode cJ9_floorMod_7cf53 16 = .ok (.iadd, 1) := by decide +kernel
theorem dJ9_floorMod_7cf53_17 : decode cJ9_floorMod_7cf53 17 = .ok (.ireturn, 1) := by decide +kernel
theorem dJ9_floorMod_7cf53_18 : decode cJ9_floorMod_7cf53 18 = .ok (.iload_n 2, 1) := by decide +kernel
theorem dJ9_floorMod_7cf53_19 : decode cJ9_floorMod_7cf53 19 = .ok (.ireturn, 1) := by decide +kernel
theorem dJ7_fill_53178_0 : decode cJ7_fill_53178 0 = .ok (.iconst 0, 1) := by decide +kernel
theorem dJ7_fill_53178_1 : decode cJ7_fill_53178 1 = .ok (.istore_n 2, 1) := by decide +kernel
theorem dJ7_fill_53178_2 : decode cJ7_fill_53178 2 = .ok (.aload_n 0, 1) := by decide +kernel
theorem dJ7_fill_53178_3 : decode cJ7_fill_53178 3 = .ok (.arraylength, 1) := by decide +kernel
theorem dJ7_fill_53178_4 : decode cJ7_fill_53178 4 = .ok (.istore_n 3, 1) := by decide +kernel
theorem dJ7_fill_53178_5 : decode cJ7_fill_53178 5 = .ok (.iload_n 2, 1) := by decide +kernel
theorem dJ7_fill_53178_6 : decode cJ7_fill_53178 6 = .ok (.iload_n 3, 1) := by decide +kernel
theorem dJ7_fill_53178_7 : decode cJ7_fill_53178 7 = .ok (.if_icmp .ge 13, 3) := by decide +kernel
theorem dJ7_fill_53178_10 : decode cJ7_fill_53178 10 = .ok (.aload_n 0, 1) := by decide +kernel
theorem dJ7_fill_53178_11 : decode cJ7_fill_53178 11 = .ok (.iload_n 2, 1) := by decide +kernel
theorem dJ7_fill_53178_12 : decode cJ7_fill_53178 12 = .ok (.iload_n 1, 1) := by decide +kernel
theorem dJ7_fill_53178_13 : decode cJ7_fill_53178 13 = .ok (.iastore, 1) := by decide +kernel
theorem dJ7_fill_53178_14 : decode cJ7_fill_53178 14 = .ok (.iinc 2 1, 3) := by decide +kernel
theorem dJ7_fill_53178_17 : decode cJ7_fill_53178 17 = .ok (.goto (-12), 3) := by decide +kernel
theorem dJ7_fill_53178_20 : decode cJ7_fill_53178 20 = .ok (.return_, 1) := by decide +kernel
set_option maxRecDepth 20000 in
theorem ggL_law_X7_init : GoodIn wsL_law wsX7_init := goodIn_r _ [8, 9, 10, 11, 12, 13, 14, 15, 16, 17, 18, 19, 20, 21, 22, 23, 24, 25, 26, 27, 28, 29, 30, 31, 32, 33, 34, 35, 36, 37, 38, 39, 40, 41, 42, 43, 44, 45, 46, 47, 48, 49, 50, 51, 52, 53, 54, 55, 56, 57, 58, 59, 60, 61, 62, 63, 64, 65, 66, 67, 68, 69, 70, 71, 72, 73, 74, 75, 76, 77, 78, 79, 80, 81, 82, 83, 84, 85, 86, 87, 831, 832, 833, 834, 835, 836, 837, 838, 839, 840, 813, 814, 815, 816, 817, 818, 841, 842, 843, 844, 845, 846, 847, 848, 849, 850, 851, 852, 853, 854, 855, 856, 857, 858, 859, 860] (by decide +kernel) (by decide +kernel)
set_option maxRecDepth 20000 in
theorem gL_law_X7_init : GoodIn wsL_law (wsX7_init) := ggL_law_X7_init
set_option maxRecDepth 20000 in
theorem ggL_law_X8_init : GoodIn wsL_law wsX8_init := goodIn_r _ [90, 91, 10, 11, 37, 92, 93, 94, 95, 96, 76, 97, 98, 819, 820, 821, 822, 823, 824, 825, 826, 827, 828, 829, 830] (by decide +kernel) (by decide +kernel)
set_option maxRecDepth 20000 in
theorem gL_law_X8_init : GoodIn wsL_law (wsX8_init) := ggL_law_X8_init
set_option maxRecDepth 20000 in
theorem ggL_law_X7_setHeavy : GoodIn wsL_law wsX7_setHeavy := goodIn_r _ [102, 20, 15, 103, 104, 105, 19, 106, 71, 107, 108, 109, 110, 111, 112, 113, 114, 115, 116, 117, 118, 119, 14, 120, 38, 121, 122, 123, 124, 42, 46, 47, 125, 126, 127, 128, 129, 130, 131, 132, 133, 41, 134, 52, 135, 53, 54, 55, 56, 136, 137, 138, 45, 139, 64, 140, 141, 142, 143, 144, 145, 146, 147, 148, 149, 2, 150, 151, 152, 153, 154, 813, 814, 815, 816, 817, 818, 841, 842, 843, 831, 832, 833, 834, 835, 836, 837, 838, 839, 840, 853, 854, 855, 856, 857, 858, 859, 860] (by decide +kernel) (by decide +kernel)
set_option maxRecDepth 20000 in
theorem gL_law_X7_setHeavy : GoodIn wsL_law (wsV RL 13 RX7 yX7_setHeavy wsX7_setHeavy) := goodIn_app (goodIn_of _ (by decide +kernel)) ggL_law_X7_setHeavy
set_option maxRecDepth 20000 in
theorem ggL_law_X8_setHeavy : GoodIn wsL_law wsX8_setHeavy := goodIn_r _ [158, 92, 159, 160, 5, 161, 162, 163, 164, 165, 166, 167, 93, 819, 820, 821, 822, 823, 824, 825, 826, 827, 828, 829, 830] (by decide +kernel) (by decide +kernel)
set_option maxRecDepth 20000 in
theorem gL_law_X8_setHeavy : GoodIn wsL_law (wsV RL 17 RX8 yX8_setHeavy wsX8_setHeavy) := goodIn_app (goodIn_of _ (by decide +kernel)) ggL_law_X8_setHeavy
set_option maxRecDepth 20000 in
theorem ggL_law_X7_make : GoodIn wsL_law wsX7_make := goodIn_r _ [171, 20, 15, 103, 104, 105, 19, 106, 71, 107, 108, 109, 110, 111, 112, 113, 114, 115, 116, 117, 118, 119, 14, 120, 38, 121, 122, 123, 124, 42, 46, 47, 125, 126, 127, 128, 129, 130, 131, 132, 133, 41, 134, 52, 135, 53, 54, 55, 56, 136, 137, 138, 45, 139, 64, 140, 141, 142, 172, 173, 174, 175, 176, 2, 177, 178, 179, 180, 181, 182, 183, 184, 185, 186, 187, 188, 189, 190, 191, 192, 193, 194, 195, 196, 197, 198, 199, 200, 201, 202, 203, 204, 205, 206, 207, 208, 209, 210, 211, 212, 213, 214, 215, 216, 217, 218, 147, 148, 149, 150, 151, 152, 153, 154, 813, 814, 815, 816, 817, 818, 841, 842, 843, 831, 832, 833, 834, 835, 836, 837, 838, 839, 840, 853, 854, 855, 856, 857, 858, 859, 860] (by decide +kernel) (by decide +kernel)
set_option maxRecDepth 20000 in
theorem gL_law_X7_make : GoodIn wsL_law (wsV RL 18 RX7 yX7_make wsX7_make) := goodIn_app (goodIn_of _ (by decide +kernel)) ggL_law_X7_make
set_option maxRecDepth 20000 in
theorem ggL_law_X8_make : GoodIn wsL_law wsX8_make := goodIn_r _ [222, 92, 159, 160, 5, 161, 223, 224, 225, 226, 227, 228, 229, 230, 231, 232, 233, 234, 235, 236, 237, 238, 239, 240, 241, 242, 243, 244, 245, 246, 247, 248, 249, 250, 251, 252, 253, 254, 255, 256, 257, 162, 163, 164, 165, 166, 167, 93, 258, 259, 260, 261, 262, 263, 264, 265, 266, 267, 268, 819, 820, 821, 822, 823, 824, 825, 826, 827, 828, 829, 830] (by decide +kernel) (by decide +kernel)
set_option maxRecDepth 20000 in
theorem gL_law_X8_make : GoodIn wsL_law (wsV RL 22 RX8 yX8_make wsX8_make) := goodIn_app (goodIn_of _ (by decide +kernel)) ggL_law_X8_make
set_option maxRecDepth 20000 in
theorem ggL_law_X7_link : GoodIn wsL_law wsX7_link := goodIn_r _ [272, 20, 15, 103, 104, 105, 19, 106, 71, 107, 108, 109, 110, 111, 112, 113, 114, 115, 116, 117, 118, 119, 14, 120, 38, 121, 122, 123, 124, 42, 46, 47, 125, 126, 127, 128, 129, 130, 131, 132, 133, 41, 134, 52, 135, 53, 54, 55, 56, 136, 137, 138, 45, 139, 64, 140, 141, 142, 273, 274, 275, 276, 176, 2, 177, 277, 278, 279, 280, 281, 282, 283, 284, 285, 286, 202, 203, 204, 205, 206, 207, 208, 209, 186, 187, 188, 189, 210, 183, 184, 185, 287, 288, 289, 290, 194, 195, 196, 197, 291, 292, 293, 294, 295, 296, 297, 298, 215, 216, 217, 218, 299, 300, 301, 302, 147, 148, 149, 150, 151, 152, 153, 154, 813, 814, 815, 816, 817, 818, 841, 842, 843, 831, 832, 833, 834, 835, 836, 837, 838, 839, 840, 853, 854, 855, 856, 857, 858, 859, 860] (by decide +kernel) (by decide +kernel)
set_option maxRecDepth 20000 in
theorem gL_law_X7_link : GoodIn wsL_law (wsV RL 23 RX7 yX7_link wsX7_link) := goodIn_app (goodIn_of _ (by decide +kernel)) ggL_law_X7_link
set_option maxRecDepth 20000 in
theorem ggL_law_X8_link : GoodIn wsL_law wsX8_link := goodIn_r _ [306, 92, 307, 308, 309, 5, 310, 223, 224, 225, 159, 160, 161, 162, 163, 164, 165, 166, 167, 93, 311, 312, 313, 314, 254, 255, 256, 257, 315, 316, 317, 250, 251, 252, 253, 238, 239, 240, 241, 318, 319, 320, 321, 262, 263, 264, 265, 258, 259, 260, 261, 322, 323, 324, 325, 266, 267, 268, 326, 327, 328, 819, 820, 821, 822, 823, 824, 825, 826, 827, 828, 829, 830] (by decide +kernel) (by decide +kernel)
set_option maxRecDepth 20000 in
theorem gL_law_X8_link : GoodIn wsL_law (wsV RL 27 RX8 yX8_link wsX8_link) := goodIn_app (goodIn_of _ (by decide +kernel)) ggL_law_X8_link
set_option maxRecDepth 20000 in
theorem ggL_law_X7_follow : GoodIn wsL_law wsX7_follow := goodIn_r _ [332, 20, 15, 103, 104, 105, 19, 106, 71, 107, 108, 109, 110, 111, 112, 113, 114, 115, 116, 117, 118, 119, 14, 120, 38, 121, 122, 123, 124, 42, 46, 47, 125, 126, 127, 128, 129, 130, 131, 132, 133, 41, 134, 52, 135, 53, 54, 55, 56, 136, 137, 138, 45, 139, 64, 140, 141, 142, 333, 334, 335, 336, 176, 2, 177, 277, 278, 279, 280, 281, 282, 283, 284, 285, 286, 202, 203, 204, 205, 206, 207, 208, 209, 186, 187, 188, 189, 210, 183, 184, 185, 287, 288, 289, 290, 194, 195, 196, 197, 291, 292, 293, 294, 295, 296, 297, 298, 215, 216, 217, 218, 147, 148, 149, 150, 151, 152, 153, 154, 813, 814, 815, 816, 817, 818, 841, 842, 843, 831, 832, 833, 834, 835, 836, 837, 838, 839, 840, 853, 854, 855, 856, 857, 858, 859, 860] (by decide +kernel) (by decide +kernel)
set_option maxRecDepth 20000 in
theorem gL_law_X7_follow : GoodIn wsL_law (wsV RL 28 RX7 yX7_follow wsX7_follow) := goodIn_app (goodIn_of _ (by decide +kernel)) ggL_law_X7_follow
set_option maxRecDepth 20000 in
theorem ggL_law_X8_follow : GoodIn wsL_law wsX8_follow := goodIn_r _ [340, 92, 307, 308, 309, 5, 310, 223, 224, 225, 159, 160, 161, 162, 163, 164, 165, 166, 167, 93, 311, 312, 313, 314, 254, 255, 256, 257, 315, 316, 317, 250, 251, 252, 253, 238, 239, 240, 241, 318, 319, 320, 321, 262, 263, 264, 265, 258, 259, 260, 261, 322, 323, 324, 325, 266, 267, 268, 326, 327, 328, 819, 820, 821, 822, 823, 824, 825, 826, 827, 828, 829, 830] (by decide +kernel) (by decide +kernel)
set_option maxRecDepth 20000 in
theorem gL_law_X8_follow : GoodIn wsL_law (wsV RL 31 RX8 yX8_follow wsX8_follow) := goodIn_app (goodIn_of _ (by decide +kernel)) ggL_law_X8_follow
set_option maxRecDepth 20000 in
theorem ggL_law_X7_drop : GoodIn wsL_law wsX7_drop := goodIn_r _ [344, 20, 15, 103, 104, 105, 19, 106, 71, 107, 108, 109, 110, 111, 112, 113, 114, 115, 116, 117, 118, 119, 14, 120, 38, 121, 122, 123, 124, 42, 46, 47, 125, 126, 127, 128, 129, 130, 131, 132, 133, 41, 134, 52, 135, 53, 54, 55, 56, 136, 137, 138, 45, 139, 64, 140, 141, 142, 345, 346, 347, 348, 176, 2, 177, 147, 148, 149, 150, 151, 152, 153, 154, 813, 814, 815, 816, 817, 818, 841, 842, 843, 831, 832, 833, 834, 835, 836, 837, 838, 839, 840, 853, 854, 855, 856, 857, 858, 859, 860] (by decide +kernel) (by decide +kernel)
set_option maxRecDepth 20000 in
theorem gL_law_X7_drop : GoodIn wsL_law (wsV RL 32 RX7 yX7_drop wsX7_drop) := goodIn_app (goodIn_of _ (by decide +kernel)) ggL_law_X7_drop
set_option maxRecDepth 20000 in
theorem ggL_law_X8_drop : GoodIn wsL_law wsX8_drop := goodIn_r _ [352, 92, 223, 224, 5, 225, 159, 160, 161, 162, 163, 164, 165, 166, 167, 93, 326, 327, 328, 819, 820, 821, 822, 823, 824, 825, 826, 827, 828, 829, 830] (by decide +kernel) (by decide +kernel)
set_option maxRecDepth 20000 in
theorem gL_law_X8_drop : GoodIn wsL_law (wsV RL 35 RX8 yX8_drop wsX8_drop) := goodIn_app (goodIn_of _ (by decide +kernel)) ggL_law_X8_drop
set_option maxRecDepth 20000 in
theorem ggL_law_X7_begin : GoodIn wsL_law wsX7_begin := goodIn_r _ [356, 20, 15, 103, 104, 105, 19, 106, 71, 107, 108, 109, 110, 111, 112, 113, 114, 115, 116, 117, 118, 119, 14, 120, 38, 121, 122, 123, 124, 42, 46, 47, 125, 126, 127, 128, 129, 130, 131, 132, 133, 41, 134, 52, 135, 53, 54, 55, 56, 136, 137, 138, 45, 139, 64, 140, 141, 142, 357, 358, 359, 360, 361, 362, 363, 364, 279, 280, 281, 282, 283, 284, 285, 286, 202, 203, 204, 205, 206, 207, 208, 209, 186, 187, 188, 189, 210, 183, 184, 185, 287, 288, 289, 290, 194, 195, 196, 197, 291, 292, 293, 294, 295, 296, 297, 298, 215, 216, 217, 218, 365, 366, 367, 368, 369, 370, 371, 372, 373, 374, 375, 376, 377, 378, 379, 380, 381, 382, 383, 384, 147, 148, 149, 2, 150, 151, 152, 153, 154, 813, 814, 815, 816, 817, 818, 841, 842, 843, 831, 832, 833, 834, 835, 836, 837, 838, 839, 840, 853, 854, 855, 856, 857, 858, 859, 860] (by decide +kernel) (by decide +kernel)
set_option maxRecDepth 20000 in
theorem gL_law_X7_begin : GoodIn wsL_law (wsV RL 36 RX7 yX7_begin wsX7_begin) := goodIn_app (goodIn_of _ (by decide +kernel)) ggL_law_X7_begin
set_option maxRecDepth 20000 in
theorem ggL_law_X8_begin : GoodIn wsL_law wsX8_begin := goodIn_r _ [388, 92, 254, 255, 256, 5, 257, 162, 163, 164, 165, 166, 167, 93, 389, 390, 391, 392, 250, 251, 252, 253, 311, 312, 313, 314, 315, 316, 317, 238, 239, 240, 241, 318, 319, 320, 321, 262, 263, 264, 265, 258, 259, 260, 261, 322, 323, 324, 325, 266, 267, 268, 393, 394, 395, 396, 819, 820, 821, 822, 823, 824, 825, 826, 827, 828, 829, 830] (by decide +kernel) (by decide +kernel)
set_option maxRecDepth 20000 in
theorem gL_law_X8_begin : GoodIn wsL_law (wsV RL 40 RX8 yX8_begin wsX8_begin) := goodIn_app (goodIn_of _ (by decide +kernel)) ggL_law_X8_begin
set_option maxRecDepth 20000 in
theorem ggL_law_X7_carry : GoodIn wsL_law wsX7_carry := goodIn_r _ [400, 20, 15, 103, 104, 105, 19, 106, 71, 107, 108, 109, 110, 111, 112, 113, 114, 115, 116, 117, 118, 119, 14, 120, 38, 121, 122, 123, 124, 42, 46, 47, 125, 126, 127, 128, 129, 130, 131, 132, 133, 41, 134, 52, 135, 53, 54, 55, 56, 136, 137, 138, 45, 139, 64, 140, 141, 142, 401, 402, 403, 404, 405, 406, 407, 408, 409, 410, 411, 412, 279, 280, 281, 282, 283, 284, 285, 286, 202, 203, 204, 205, 206, 207, 208, 209, 186, 187, 188, 189, 210, 183, 184, 185, 287, 288, 289, 290, 194, 195, 196, 197, 291, 292, 293, 294, 295, 296, 297, 298, 215, 216, 217, 218, 365, 366, 367, 368, 369, 370, 371, 372, 373, 374, 375, 376, 377, 378, 379, 380, 381, 382, 383, 384, 147, 148, 149, 2, 150, 151, 152, 153, 154, 813, 814, 815, 816, 817, 818, 841, 842, 843, 831, 832, 833, 834, 835, 836, 837, 838, 839, 840, 853, 854, 855, 856, 857, 858, 859, 860] (by decide +kernel) (by decide +kernel)
set_option maxRecDepth 20000 in
theorem gL_law_X7_carry : GoodIn wsL_law (wsV RL 41 RX7 yX7_carry wsX7_carry) := goodIn_app (goodIn_of _ (by decide +kernel)) ggL_law_X7_carry
set_option maxRecDepth 20000 in
theorem ggL_law_X8_carry : GoodIn wsL_law wsX8_carry := goodIn_r _ [416, 159, 160, 5, 161, 254, 255, 256, 257, 92, 162, 163, 164, 165, 166, 167, 93, 417, 418, 419, 420, 311, 312, 313, 314, 315, 316, 317, 250, 251, 252, 253, 238, 239, 240, 241, 318, 319, 320, 321, 262, 263, 264, 265, 258, 259, 260, 261, 322, 323, 324, 325, 266, 267, 268, 393, 394, 395, 396, 819, 820, 821, 822, 823, 824, 825, 826, 827, 828, 829, 830] (by decide +kernel) (by decide +kernel)
set_option maxRecDepth 20000 in
theorem gL_law_X8_carry : GoodIn wsL_law (wsV RL 44 RX8 yX8_carry wsX8_carry) := goodIn_app (goodIn_of _ (by decide +kernel)) ggL_law_X8_carry
set_option maxRecDepth 20000 in
theorem ggL_law_X7_lose : GoodIn wsL_law wsX7_lose := goodIn_r _ [424, 20, 15, 103, 104, 105, 19, 106, 71, 107, 108, 109, 110, 111, 112, 113, 114, 115, 116, 117, 118, 119, 14, 120, 38, 121, 122, 123, 124, 42, 46, 47, 125, 126, 127, 128, 129, 130, 131, 132, 133, 41, 134, 52, 135, 53, 54, 55, 56, 136, 137, 138, 45, 139, 64, 140, 141, 142, 425, 426, 427, 428, 429, 430, 431, 432, 433, 434, 435, 436, 437, 438, 439, 440, 186, 187, 188, 189, 206, 207, 208, 209, 194, 195, 196, 197, 198, 199, 200, 201, 202, 203, 204, 205, 210, 183, 184, 185, 441, 442, 443, 444, 147, 148, 149, 2, 150, 151, 152, 153, 154, 813, 814, 815, 816, 817, 818, 841, 842, 843, 831, 832, 833, 834, 835, 836, 837, 838, 839, 840, 853, 854, 855, 856, 857, 858, 859, 860] (by decide +kernel) (by decide +kernel)
set_option maxRecDepth 20000 in
theorem gL_law_X7_lose : GoodIn wsL_law (wsV RL 45 RX7 yX7_lose wsX7_lose) := goodIn_app (goodIn_of _ (by decide +kernel)) ggL_law_X7_lose
set_option maxRecDepth 20000 in
theorem ggL_law_X8_lose : GoodIn wsL_law wsX8_lose := goodIn_r _ [448, 92, 449, 450, 451, 5, 452, 254, 255, 256, 257, 453, 454, 455, 456, 250, 251, 252, 253, 238, 239, 240, 241, 242, 243, 244, 245, 246, 247, 248, 249, 234, 235, 236, 237, 230, 231, 232, 233, 162, 163, 164, 165, 166, 167, 93, 266, 267, 268, 819, 820, 821, 822, 823, 824, 825, 826, 827, 828, 829, 830] (by decide +kernel) (by decide +kernel)
set_option maxRecDepth 20000 in
theorem gL_law_X8_lose : GoodIn wsL_law (wsV RL 48 RX8 yX8_lose wsX8_lose) := goodIn_app (goodIn_of _ (by decide +kernel)) ggL_law_X8_lose
set_option maxRecDepth 20000 in
theorem ggL_law_X7_mend : GoodIn wsL_law wsX7_mend := goodIn_r _ [460, 20, 15, 103, 104, 105, 19, 106, 71, 107, 108, 109, 110, 111, 112, 113, 114, 115, 116, 117, 118, 119, 14, 120, 38, 121, 122, 123, 124, 42, 46, 47, 125, 126, 127, 128, 129, 130, 131, 132, 133, 41, 134, 52, 135, 53, 54, 55, 56, 136, 137, 138, 45, 139, 64, 140, 141, 142, 461, 462, 463, 464, 429, 430, 431, 432, 465, 466, 467, 468, 437, 438, 439, 440, 186, 187, 188, 189, 283, 284, 285, 286, 202, 203, 204, 205, 469, 470, 471, 472, 473, 474, 378, 379, 380, 475, 476, 477, 478, 479, 480, 481, 482, 147, 148, 149, 2, 150, 151, 152, 153, 154, 813, 814, 815, 816, 817, 818, 841, 842, 843, 831, 832, 833, 834, 835, 836, 837, 838, 839, 840, 853, 854, 855, 856, 857, 858, 859, 860] (by decide +kernel) (by decide +kernel)
set_option maxRecDepth 20000 in
theorem gL_law_X7_mend : GoodIn wsL_law (wsV RL 49 RX7 yX7_mend wsX7_mend) := goodIn_app (goodIn_of _ (by decide +kernel)) ggL_law_X7_mend
set_option maxRecDepth 20000 in
theorem ggL_law_X8_mend : GoodIn wsL_law wsX8_mend := goodIn_r _ [486, 92, 449, 450, 451, 5, 452, 487, 488, 489, 490, 254, 255, 256, 257, 250, 251, 252, 253, 238, 239, 240, 241, 162, 163, 164, 165, 166, 167, 93, 491, 492, 493, 494, 266, 267, 268, 495, 496, 497, 498, 315, 316, 317, 234, 235, 236, 237, 819, 820, 821, 822, 823, 824, 825, 826, 827, 828, 829, 830] (by decide +kernel) (by decide +kernel)
set_option maxRecDepth 20000 in
theorem gL_law_X8_mend : GoodIn wsL_law (wsV RL 52 RX8 yX8_mend wsX8_mend) := goodIn_app (goodIn_of _ (by decide +kernel)) ggL_law_X8_mend
set_option maxRecDepth 20000 in
theorem ggL_law_X7_undo : GoodIn wsL_law wsX7_undo := goodIn_r _ [502, 20, 15, 503, 504, 505, 19, 506, 112, 507, 508, 509, 510, 511, 512, 513, 514, 71, 107, 108, 109, 110, 111, 113, 114, 115, 116, 117, 118, 119, 14, 120, 38, 121, 122, 123, 124, 42, 46, 47, 125, 126, 127, 128, 129, 130, 131, 132, 133, 41, 134, 52, 135, 53, 54, 55, 56, 136, 137, 138, 45, 139, 64, 140, 141, 142, 813, 814, 815, 816, 817, 818, 841, 842, 843, 831, 832, 833, 834, 835, 836, 837, 838, 839, 840, 853, 854, 855, 856, 857, 858, 859, 860] (by decide +kernel) (by decide +kernel)
set_option maxRecDepth 20000 in
theorem gL_law_X7_undo : GoodIn wsL_law (wsV RL 53 RX7 yX7_undo wsX7_undo) := goodIn_app (goodIn_of _ (by decide +kernel)) ggL_law_X7_undo
set_option maxRecDepth 20000 in
theorem ggL_law_X8_undo : GoodIn wsL_law wsX8_undo := goodIn_r _ [518, 167, 92, 93, 819, 820, 821, 822, 823, 824, 825, 826, 827, 828, 829, 830] (by decide +kernel) (by decide +kernel)
set_option maxRecDepth 20000 in
theorem gL_law_X8_undo : GoodIn wsL_law (wsV RL 56 RX8 yX8_undo wsX8_undo) := goodIn_app (goodIn_of _ (by decide +kernel)) ggL_law_X8_undo
set_option maxRecDepth 20000 in
theorem ggL_law_X7_append : GoodIn wsL_law wsX7_append := goodIn_r _ [522, 28, 523, 524, 525, 27, 526, 527, 83, 813, 814, 815, 816, 817, 818, 848, 849] (by decide +kernel) (by decide +kernel)
set_option maxRecDepth 20000 in
theorem gL_law_X7_append : GoodIn wsL_law (wsV RL 57 RX7 yX7_append wsX7_append) := goodIn_app (goodIn_of _ (by decide +kernel)) ggL_law_X7_append
set_option maxRecDepth 20000 in
theorem ggL_law_X8_append : GoodIn wsL_law wsX8_append := goodIn_r _ [531, 532, 95, 159, 160, 5, 161, 819, 820, 821, 822, 823, 824, 825, 826, 827, 828, 829, 830] (by decide +kernel) (by decide +kernel)
set_option maxRecDepth 20000 in
theorem gL_law_X8_append : GoodIn wsL_law (wsV RL 60 RX8 yX8_append wsX8_append) := goodIn_app (goodIn_of _ (by decide +kernel)) ggL_law_X8_append
set_option maxRecDepth 20000 in
theorem ggL_law_X7_clearText : GoodIn wsL_law wsX7_clearText := goodIn_r _ [536, 28, 537, 538, 539, 27, 540, 527, 541, 542, 543, 544, 813, 814, 815, 816, 817, 818, 848, 849] (by decide +kernel) (by decide +kernel)
set_option maxRecDepth 20000 in
theorem gL_law_X7_clearText : GoodIn wsL_law (wsV RL 61 RX7 yX7_clearText wsX7_clearText) := goodIn_app (goodIn_of _ (by decide +kernel)) ggL_law_X7_clearText
set_option maxRecDepth 20000 in
theorem ggL_law_X8_clearText : GoodIn wsL_law wsX8_clearText := goodIn_r _ [548, 532, 819, 820, 821, 822, 823, 824, 825, 826, 827, 828, 829, 830] (by decide +kernel) (by decide +kernel)
set_option maxRecDepth 20000 in
theorem gL_law_X8_clearText : GoodIn wsL_law (wsV RL 64 RX8 yX8_clearText wsX8_clearText) := goodIn_app (goodIn_of _ (by decide +kernel)) ggL_law_X8_clearText
set_option maxRecDepth 20000 in
theorem ggL_law_X7_run : GoodIn wsL_law wsX7_run := goodIn_r _ [552, 20, 15, 28, 32, 103, 104, 105, 19, 106, 71, 107, 108, 109, 110, 111, 112, 113, 114, 115, 116, 117, 118, 119, 14, 120, 38, 121, 122, 123, 124, 42, 46, 47, 125, 126, 127, 128, 129, 130, 131, 132, 133, 41, 134, 52, 135, 53, 54, 55, 56, 136, 137, 138, 45, 139, 64, 140, 141, 142, 537, 538, 539, 27, 540, 527, 553, 554, 555, 31, 556, 557, 558, 87, 559, 560, 561, 562, 83, 563, 564, 565, 566, 567, 568, 569, 570, 571, 572, 573, 574, 575, 576, 577, 578, 579, 580, 581, 582, 583, 584, 585, 586, 2, 587, 588, 512, 513, 514, 589, 590, 591, 592, 593, 173, 174, 175, 176, 177, 178, 179, 180, 181, 182, 183, 184, 185, 186, 187, 188, 189, 190, 191, 192, 193, 194, 195, 196, 197, 198, 199, 200, 201, 202, 203, 204, 205, 206, 207, 208, 209, 210, 211, 212, 213, 214, 215, 216, 217, 218, 594, 274, 275, 276, 277, 278, 279, 280, 281, 282, 283, 284, 285, 286, 287, 288, 289, 290, 291, 292, 293, 294, 295, 296, 297, 298, 299, 300, 301, 302, 595, 334, 335, 336, 596, 346, 347, 348, 597, 358, 359, 360, 361, 362, 363, 364, 365, 366, 367, 368, 369, 370, 371, 372, 373, 374, 375, 376, 377, 378, 379, 380, 381, 382, 383, 384, 598, 402, 403, 404, 405, 406, 407, 408, 409, 410, 411, 412, 541, 542, 543, 544, 147, 148, 149, 150, 151, 152, 153, 154, 813, 814, 815, 816, 817, 818, 841, 842, 843, 831, 832, 833, 834, 835, 836, 837, 838, 839, 840, 853, 854, 855, 856, 857, 858, 859, 860, 848, 849, 850, 851, 852] (by decide +kernel) (by decide +kernel)
set_option maxRecDepth 20000 in
theorem gL_law_X7_run : GoodIn wsL_law (wsV RL 65 RX7 yX7_run wsX7_run) := goodIn_app (goodIn_of _ (by decide +kernel)) ggL_law_X7_run
set_option maxRecDepth 20000 in
theorem ggL_law_X8_run : GoodIn wsL_law wsX8_run := goodIn_r _ [602, 166, 603, 532, 604, 605, 606, 5, 607, 94, 92, 608, 609, 610, 611, 95, 612, 613, 614, 615, 616, 617, 618, 159, 160, 161, 619, 620, 621, 622, 96, 623, 624, 625, 626, 627, 220, 221, 222, 223, 224, 225, 226, 227, 228, 229, 230, 231, 232, 233, 234, 235, 236, 237, 238, 239, 240, 241, 242, 243, 244, 245, 246, 247, 248, 249, 250, 251, 252, 253, 254, 255, 256, 257, 162, 163, 164, 165, 167, 93, 258, 259, 260, 261, 262, 263, 264, 265, 266, 267, 268, 628, 304, 305, 306, 307, 308, 309, 310, 311, 312, 313, 314, 315, 316, 317, 318, 319, 320, 321, 322, 323, 324, 325, 326, 327, 328, 629, 338, 339, 340, 630, 350, 351, 352, 631, 414, 415, 416, 417, 418, 419, 420, 393, 394, 395, 396, 632, 386, 387, 388, 389, 390, 391, 392, 633, 634, 635, 636, 819, 820, 821, 822, 823, 824, 825, 826, 827, 828, 829, 830] (by decide +kernel) (by decide +kernel)
set_option maxRecDepth 20000 in
theorem gL_law_X8_run : GoodIn wsL_law (wsV RL 68 RX8 yX8_run wsX8_run) := goodIn_app (goodIn_of _ (by decide +kernel)) ggL_law_X8_run
set_option maxRecDepth 20000 in
theorem ggL_law_X7_count : GoodIn wsL_law wsX7_count := goodIn_r _ [640, 20, 28, 15, 503, 504, 505, 19, 506, 112, 537, 538, 539, 27, 540, 527, 641, 642, 643, 14, 644, 125, 42, 126, 127, 46, 129, 130, 47, 645, 646, 647, 41, 648, 186, 187, 188, 189, 53, 194, 195, 196, 197, 128, 649, 650, 651, 652, 182, 183, 184, 185, 365, 366, 367, 45, 368, 142, 141, 198, 199, 200, 201, 202, 203, 204, 205, 206, 207, 208, 209, 54, 210, 653, 654, 655, 656, 465, 466, 467, 468, 437, 438, 439, 440, 52, 283, 284, 285, 286, 813, 814, 815, 816, 817, 818, 841, 842, 843, 848, 849, 831, 832, 833, 834, 835, 836, 837, 838, 839, 840, 853, 854, 855, 856, 857, 858, 859, 860] (by decide +kernel) (by decide +kernel)
set_option maxRecDepth 20000 in
theorem gL_law_X7_count : GoodIn wsL_law (wsV RL 69 RX7 yX7_count wsX7_count) := goodIn_app (goodIn_of _ (by decide +kernel)) ggL_law_X7_count
set_option maxRecDepth 20000 in
theorem ggL_law_X8_count : GoodIn wsL_law wsX8_count := goodIn_r _ [660, 92, 167, 532, 661, 662, 663, 5, 664, 234, 235, 236, 237, 238, 239, 240, 241, 242, 243, 244, 245, 665, 666, 667, 668, 230, 231, 232, 233, 246, 247, 248, 249, 250, 251, 252, 253, 254, 255, 256, 257, 669, 670, 671, 672, 487, 488, 489, 490, 819, 820, 821, 822, 823, 824, 825, 826, 827, 828, 829, 830] (by decide +kernel) (by decide +kernel)
set_option maxRecDepth 20000 in
theorem gL_law_X8_count : GoodIn wsL_law (wsV RL 72 RX8 yX8_count wsX8_count) := goodIn_app (goodIn_of _ (by decide +kernel)) ggL_law_X8_count
set_option maxRecDepth 20000 in
theorem ggL_law_X7_hook : GoodIn wsL_law wsX7_hook := goodIn_r _ [676, 15, 677, 176, 2, 177, 678, 679, 680, 14, 681, 38, 682, 683, 684, 813, 814, 815, 816, 817, 818, 831, 832, 833, 834, 835, 836, 837, 838, 839, 840] (by decide +kernel) (by decide +kernel)
set_option maxRecDepth 20000 in
theorem gL_law_X7_hook : GoodIn wsL_law (wsV RL 73 RX7 yX7_hook wsX7_hook) := goodIn_app (goodIn_of _ (by decide +kernel)) ggL_law_X7_hook
set_option maxRecDepth 20000 in
theorem ggL_law_X8_hook : GoodIn wsL_law wsX8_hook := goodIn_r _ [688, 92, 223, 224, 5, 225, 159, 160, 161, 819, 820, 821, 822, 823, 824, 825, 826, 827, 828, 829, 830] (by decide +kernel) (by decide +kernel)
set_option maxRecDepth 20000 in
theorem gL_law_X8_hook : GoodIn wsL_law (wsV RL 76 RX8 yX8_hook wsX8_hook) := goodIn_app (goodIn_of _ (by decide +kernel)) ggL_law_X8_hook
set_option maxRecDepth 20000 in
theorem ggL_law_X7_copy : GoodIn wsL_law wsX7_copy := goodIn_r _ [692, 15, 693, 187, 188, 41, 189, 53, 694, 695, 696, 697, 52, 186, 698, 183, 184, 185, 699, 207, 208, 209, 54, 682, 683, 2, 684, 700, 701, 702, 703, 55, 704, 705, 706, 707, 56, 277, 278, 813, 814, 815, 816, 817, 818, 831, 832, 833, 834, 835, 836, 837, 838, 839, 840, 853, 854, 855, 856, 857] (by decide +kernel) (by decide +kernel)
set_option maxRecDepth 20000 in
theorem gL_law_X7_copy : GoodIn wsL_law (wsV RL 77 RX7 yX7_copy wsX7_copy) := goodIn_app (goodIn_of _ (by decide +kernel)) ggL_law_X7_copy
set_option maxRecDepth 20000 in
theorem ggL_law_X8_copy : GoodIn wsL_law wsX8_copy := goodIn_r _ [711, 712, 713, 5, 714, 315, 316, 317, 234, 235, 236, 237, 238, 239, 240, 241, 92, 159, 160, 161, 230, 231, 232, 233, 819, 820, 821, 822, 823, 824, 825, 826, 827, 828, 829, 830] (by decide +kernel) (by decide +kernel)
set_option maxRecDepth 20000 in
theorem gL_law_X8_copy : GoodIn wsL_law (wsV RL 80 RX8 yX8_copy wsX8_copy) := goodIn_app (goodIn_of _ (by decide +kernel)) ggL_law_X8_copy
set_option maxRecDepth 20000 in
theorem ggL_law_X7_where : GoodIn wsL_law wsX7_where := goodIn_r _ [718, 15, 719, 430, 431, 14, 432, 125, 720, 470, 471, 41, 472, 473, 438, 439, 440, 52, 186, 187, 188, 189, 53, 682, 683, 2, 684, 813, 814, 815, 816, 817, 818, 831, 832, 833, 834, 835, 836, 837, 838, 839, 840, 853, 854, 855, 856, 857] (by decide +kernel) (by decide +kernel)
set_option maxRecDepth 20000 in
theorem gL_law_X7_where : GoodIn wsL_law (wsV RL 81 RX7 yX7_where wsX7_where) := goodIn_app (goodIn_of _ (by decide +kernel)) ggL_law_X7_where
set_option maxRecDepth 20000 in
theorem ggL_law_X8_where : GoodIn wsL_law wsX8_where := goodIn_r _ [724, 449, 450, 451, 5, 452, 92, 238, 239, 240, 241, 266, 267, 268, 819, 820, 821, 822, 823, 824, 825, 826, 827, 828, 829, 830] (by decide +kernel) (by decide +kernel)
set_option maxRecDepth 20000 in
theorem gL_law_X8_where : GoodIn wsL_law (wsV RL 84 RX8 yX8_where wsX8_where) := goodIn_app (goodIn_of _ (by decide +kernel)) ggL_law_X8_where
set_option maxRecDepth 20000 in
theorem ggL_law_X7_named : GoodIn wsL_law wsX7_named := goodIn_r _ [728, 24, 15, 677, 176, 2, 177, 729, 730, 731, 23, 732, 77, 733, 678, 679, 680, 14, 681, 38, 734, 735, 736, 737, 78, 738, 739, 740, 41, 741, 742, 207, 208, 209, 54, 186, 187, 188, 189, 53, 743, 744, 745, 746, 747, 748, 749, 750, 751, 752, 705, 706, 707, 56, 277, 278, 753, 754, 755, 756, 757, 79, 758, 695, 696, 697, 52, 813, 814, 815, 816, 817, 818, 831, 832, 833, 834, 835, 836, 837, 838, 839, 840, 844, 845, 846, 847, 853, 854, 855, 856, 857] (by decide +kernel) (by decide +kernel)
set_option maxRecDepth 20000 in
theorem gL_law_X7_named : GoodIn wsL_law (wsV RL 85 RX7 yX7_named wsX7_named) := goodIn_app (goodIn_of _ (by decide +kernel)) ggL_law_X7_named
set_option maxRecDepth 20000 in
theorem ggL_law_X8_named : GoodIn wsL_law wsX8_named := goodIn_r _ [762, 92, 763, 98, 223, 224, 5, 225, 159, 160, 161, 764, 765, 766, 767, 97, 768, 769, 770, 771, 315, 316, 317, 238, 239, 240, 241, 772, 773, 774, 775, 819, 820, 821, 822, 823, 824, 825, 826, 827, 828, 829, 830] (by decide +kernel) (by decide +kernel)
set_option maxRecDepth 20000 in
theorem gL_law_X8_named : GoodIn wsL_law (wsV RL 88 RX8 yX8_named wsX8_named) := goodIn_app (goodIn_of _ (by decide +kernel)) ggL_law_X8_named
set_option maxRecDepth 20000 in
theorem ggL_law_X7_garbage : GoodIn wsL_law wsX7_garbage := goodIn_r _ [779, 24, 15, 729, 730, 731, 23, 732, 77, 733, 678, 679, 680, 14, 681, 38, 176, 2, 177, 734, 735, 736, 737, 78, 738, 739, 740, 41, 741, 742, 207, 208, 209, 54, 186, 187, 188, 189, 53, 743, 744, 745, 746, 747, 748, 749, 750, 751, 752, 705, 706, 707, 56, 277, 278, 753, 780, 781, 782, 783, 784, 785, 183, 184, 185, 813, 814, 815, 816, 817, 818, 831, 832, 833, 834, 835, 836, 837, 838, 839, 840, 844, 845, 846, 847, 853, 854, 855, 856, 857] (by decide +kernel) (by decide +kernel)
set_option maxRecDepth 20000 in
theorem gL_law_X7_garbage : GoodIn wsL_law (wsV RL 89 RX7 yX7_garbage wsX7_garbage) := goodIn_app (goodIn_of _ (by decide +kernel)) ggL_law_X7_garbage
set_option maxRecDepth 20000 in
theorem ggL_law_X8_garbage : GoodIn wsL_law wsX8_garbage := goodIn_r _ [789, 92, 97, 764, 765, 766, 5, 767, 763, 768, 769, 770, 771, 98, 315, 316, 317, 238, 239, 240, 241, 772, 773, 774, 775, 234, 235, 236, 237, 230, 231, 232, 233, 819, 820, 821, 822, 823, 824, 825, 826, 827, 828, 829, 830] (by decide +kernel) (by decide +kernel)
set_option maxRecDepth 20000 in
theorem gL_law_X8_garbage : GoodIn wsL_law (wsV RL 92 RX8 yX8_garbage wsX8_garbage) := goodIn_app (goodIn_of _ (by decide +kernel)) ggL_law_X8_garbage
set_option maxRecDepth 20000 in
theorem ggL_law_X7_stepsLeft : GoodIn wsL_law wsX7_stepsLeft := goodIn_r _ [793, 15, 16, 794, 118, 119, 14, 120, 38, 121, 122, 123, 124, 42, 46, 47, 125, 126, 127, 128, 129, 130, 131, 132, 133, 41, 134, 52, 135, 53, 54, 55, 56, 136, 137, 138, 45, 139, 64, 140, 141, 142, 795, 406, 407, 408, 409, 410, 411, 412, 279, 280, 281, 282, 283, 284, 285, 286, 202, 203, 204, 205, 206, 207, 208, 209, 186, 187, 188, 189, 210, 183, 184, 185, 287, 288, 289, 290, 194, 195, 196, 197, 291, 292, 293, 294, 295, 296, 297, 298, 215, 216, 217, 218, 365, 366, 367, 368, 369, 370, 371, 372, 373, 374, 375, 376, 377, 378, 379, 380, 381, 382, 383, 384, 813, 814, 815, 816, 817, 818, 831, 832, 833, 834, 835, 836, 837, 838, 839, 840, 853, 854, 855, 856, 857, 858, 859, 860] (by decide +kernel) (by decide +kernel)
set_option maxRecDepth 20000 in
theorem gL_law_X7_stepsLeft : GoodIn wsL_law (wsV RL 93 RX7 yX7_stepsLeft wsX7_stepsLeft) := goodIn_app (goodIn_of _ (by decide +kernel)) ggL_law_X7_stepsLeft
set_option maxRecDepth 20000 in
theorem ggL_law_X8_stepsLeft : GoodIn wsL_law wsX8_stepsLeft := goodIn_r _ [799, 254, 255, 256, 5, 257, 92, 604, 605, 606, 607, 94, 800, 801, 802, 803, 417, 418, 419, 420, 311, 312, 313, 314, 315, 316, 317, 250, 251, 252, 253, 238, 239, 240, 241, 318, 319, 320, 321, 262, 263, 264, 265, 258, 259, 260, 261, 322, 323, 324, 325, 266, 267, 268, 393, 394, 395, 396, 633, 634, 635, 636, 819, 820, 821, 822, 823, 824, 825, 826, 827, 828, 829, 830] (by decide +kernel) (by decide +kernel)
set_option maxRecDepth 20000 in
theorem gL_law_X8_stepsLeft : GoodIn wsL_law (wsV RL 96 RX8 yX8_stepsLeft wsX8_stepsLeft) := goodIn_app (goodIn_of _ (by decide +kernel)) ggL_law_X8_stepsLeft
set_option maxRecDepth 20000 in
theorem ggL_law_X7_freeThen : GoodIn wsL_law wsX7_freeThen := goodIn_r _ [807, 16, 15, 794, 118, 119, 14, 120, 38, 121, 122, 123, 124, 42, 46, 47, 125, 126, 127, 128, 129, 130, 131, 132, 133, 41, 134, 52, 135, 53, 54, 55, 56, 136, 137, 138, 45, 139, 64, 140, 141, 142, 795, 406, 407, 408, 409, 410, 411, 412, 279, 280, 281, 282, 283, 284, 285, 286, 202, 203, 204, 205, 206, 207, 208, 209, 186, 187, 188, 189, 210, 183, 184, 185, 287, 288, 289, 290, 194, 195, 196, 197, 291, 292, 293, 294, 295, 296, 297, 298, 215, 216, 217, 218, 365, 366, 367, 368, 369, 370, 371, 372, 373, 374, 375, 376, 377, 378, 379, 380, 381, 382, 383, 384, 357, 358, 359, 360, 361, 362, 363, 364, 808, 813, 814, 815, 816, 817, 818, 831, 832, 833, 834, 835, 836, 837, 838, 839, 840, 853, 854, 855, 856, 857, 858, 859, 860] (by decide +kernel) (by decide +kernel)
set_option maxRecDepth 20000 in
theorem gL_law_X7_freeThen : GoodIn wsL_law (wsV RL 97 RX7 yX7_freeThen wsX7_freeThen) := goodIn_app (goodIn_of _ (by decide +kernel)) ggL_law_X7_freeThen
set_option maxRecDepth 20000 in
theorem ggL_law_X8_freeThen : GoodIn wsL_law wsX8_freeThen := goodIn_r _ [812, 92, 604, 605, 606, 5, 607, 94, 800, 801, 802, 803, 254, 255, 256, 257, 417, 418, 419, 420, 311, 312, 313, 314, 315, 316, 317, 250, 251, 252, 253, 238, 239, 240, 241, 318, 319, 320, 321, 262, 263, 264, 265, 258, 259, 260, 261, 322, 323, 324, 325, 266, 267, 268, 393, 394, 395, 396, 389, 390, 391, 392, 242, 243, 244, 245, 633, 634, 635, 636, 819, 820, 821, 822, 823, 824, 825, 826, 827, 828, 829, 830] (by decide +kernel) (by decide +kernel)
set_option maxRecDepth 20000 in
theorem gL_law_X8_freeThen : GoodIn wsL_law (wsV RL 100 RX8 yX8_freeThen wsX8_freeThen) := goodIn_app (goodIn_of _ (by decide +kernel)) ggL_law_X8_freeThen
theorem dL_law_0 : decode cL_law 0 = .ok (.new 7, 3) := by decide +kernel
theorem dL_law_3 : decode cL_law 3 = .ok (.dup, 1) := by decide +kernel
theorem dL_law_4 : decode cL_law 4 = .ok (.invokespecial 9, 3) := by decide +kernel
theorem dL_law_7 : decode cL_law 7 = .ok (.astore_n 1, 1) := by decide +kernel
theorem dL_law_8 : decode cL_law 8 = .ok (.new 10, 3) := by decide +kernel
theorem dL_law_11 : decode cL_law 11 = .ok (.dup, 1) := by decide +kernel
theorem dL_law_12 : decode cL_law 12 = .ok (.invokespecial 12, 3) := by decide +kernel
theorem dL_law_15 : decode cL_law 15 = .ok (.astore_n 2, 1) := by decide +kernel
theorem dL_law_16 : decode cL_law 16 = .ok (.iconst 0, 1) := by decide +kernel
theorem dL_law_17 : decode cL_law 17 = .ok (.istore_n 3, 1) := by decide +kernel
theorem dL_law_18 : decode cL_law 18 = .ok (.iload_n 3, 1) := by decide +kernel
theorem dL_law_19 : decode cL_law 19 = .ok (.aload_n 0, 1) := by decide +kernel
theorem dL_law_20 : decode cL_law 20 = .ok (.arraylength, 1) := by decide +kernel
theorem dL_law_21 : decode cL_law 21 = .ok (.iconst 4, 1) := by decide +kernel
theorem dL_law_22 : decode cL_law 22 = .ok (.isub, 1) := by decide +kernel
theorem dL_law_23 : decode cL_law 23 = .ok (.if_icmp .gt 598, 3) := by decide +kernel
theorem dL_law_26 : decode cL_law 26 = .ok (.aload_n 0, 1) := by decide +kernel
theorem dL_law_27 : decode cL_law 27 = .ok (.iload_n 3, 1) := by decide +kernel
theorem dL_law_28 : decode cL_law 28 = .ok (.iaload, 1) := by decide +kernel
theorem dL_law_29 : decode cL_law 29 = .ok (.bipush 31, 2) := by decide +kernel
theorem dL_law_31 : decode cL_law 31 = .ok (.iand, 1) := by decide +kernel
theorem dL_law_32 : decode cL_law 32 = .ok (.tableswitch 583 0 20 #[100, 123, 156, 199, 242, 265, 278, 301, 324, 347, 360, 383, 396, 409, 432, 455, 488, 521, 544, 557, 570], 100) := by decide +kernel
theorem dL_law_132 : decode cL_law 132 = .ok (.aload_n 1, 1) := by decide +kernel
theorem dL_law_133 : decode cL_law 133 = .ok (.aload_n 0, 1) := by decide +kernel
theorem dL_law_134 : decode cL_law 134 = .ok (.iload_n 3, 1) := by decide +kernel
theorem dL_law_135 : decode cL_law 135 = .ok (.iconst 1, 1) := by decide +kernel
theorem dL_law_136 : decode cL_law 136 = .ok (.iadd, 1) := by decide +kernel
theorem dL_law_137 : decode cL_law 137 = .ok (.iaload, 1) := by decide +kernel
theorem dL_law_138 : decode cL_law 138 = .ok (.invokevirtual 13, 3) := by decide +kernel
theorem dL_law_141 : decode cL_law 141 = .ok (.aload_n 2, 1) := by decide +kernel
theorem dL_law_142 : decode cL_law 142 = .ok (.aload_n 0, 1) := by decide +kernel
theorem dL_law_143 : decode cL_law 143 = .ok (.iload_n 3, 1) := by decide +kernel
theorem dL_law_144 : decode cL_law 144 = .ok (.iconst 1, 1) := by decide +kernel
theorem dL_law_145 : decode cL_law 145 = .ok (.iadd, 1) := by decide +kernel
theorem dL_law_146 : decode cL_law 146 = .ok (.iaload, 1) := by decide +kernel
theorem dL_law_147 : decode cL_law 147 = .ok (.invokevirtual 17, 3) := by decide +kernel
theorem dL_law_150 : decode cL_law 150 = .ok (.if_icmp .eq 465, 3) := by decide +kernel
theorem dL_law_153 : decode cL_law 153 = .ok (.iconst 0, 1) := by decide +kernel
theorem dL_law_154 : decode cL_law 154 = .ok (.ireturn, 1) := by decide +kernel
theorem dL_law_155 : decode cL_law 155 = .ok (.aload_n 1, 1) := by decide +kernel
theorem dL_law_156 : decode cL_law 156 = .ok (.aload_n 0, 1) := by decide +kernel
theorem dL_law_157 : decode cL_law 157 = .ok (.iload_n 3, 1) := by decide +kernel
theorem dL_law_158 : decode cL_law 158 = .ok (.iconst 1, 1) := by decide +kernel
theorem dL_law_159 : decode cL_law 159 = .ok (.iadd, 1) := by decide +kernel
theorem dL_law_160 : decode cL_law 160 = .ok (.iaload, 1) := by decide +kernel
theorem dL_law_161 : decode cL_law 161 = .ok (.aload_n 0, 1) := by decide +kernel
theorem dL_law_162 : decode cL_law 162 = .ok (.iload_n 3, 1) := by decide +kernel
theorem dL_law_163 : decode cL_law 163 = .ok (.iconst 2, 1) := by decide +kernel
theorem dL_law_164 : decode cL_law 164 = .ok (.iadd, 1) := by decide +kernel
theorem dL_law_165 : decode cL_law 165 = .ok (.iaload, 1) := by decide +kernel
theorem dL_law_166 : decode cL_law 166 = .ok (.invokevirtual 18, 3) := by decide +kernel
theorem dL_law_169 : decode cL_law 169 = .ok (.aload_n 2, 1) := by decide +kernel
theorem dL_law_170 : decode cL_law 170 = .ok (.aload_n 0, 1) := by decide +kernel
theorem dL_law_171 : decode cL_law 171 = .ok (.iload_n 3, 1) := by decide +kernel
theorem dL_law_172 : decode cL_law 172 = .ok (.iconst 1, 1) := by decide +kernel
