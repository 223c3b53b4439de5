theorem dX8_kept_0 : decode cX8_kept 0 = .ok (.iconst 0, 1) := by decide +kernel
theorem dX8_kept_1 : decode cX8_kept 1 = .ok (.istore_n 1, 1) := by decide +kernel
theorem dX8_kept_2 : decode cX8_kept 2 = .ok (.bipush 64, 2) := by decide +kernel
theorem dX8_kept_4 : decode cX8_kept 4 = .ok (.aload_n 0, 1) := by decide +kernel
theorem dX8_kept_5 : decode cX8_kept 5 = .ok (.invokevirtual 52, 3) := by decide +kernel
theorem dX8_kept_8 : decode cX8_kept 8 = .ok (.imul, 1) := by decide +kernel
theorem dX8_kept_9 : decode cX8_kept 9 = .ok (.istore_n 2, 1) := by decide +kernel
theorem dX8_kept_10 : decode cX8_kept 10 = .ok (.iload_n 2, 1) := by decide +kernel
theorem dX8_kept_11 : decode cX8_kept 11 = .ok (.bipush 64, 2) := by decide +kernel
theorem dX8_kept_13 : decode cX8_kept 13 = .ok (.aload_n 0, 1) := by decide +kernel
theorem dX8_kept_14 : decode cX8_kept 14 = .ok (.invokevirtual 52, 3) := by decide +kernel
theorem dX8_kept_17 : decode cX8_kept 17 = .ok (.imul, 1) := by decide +kernel
theorem dX8_kept_18 : decode cX8_kept 18 = .ok (.bipush 64, 2) := by decide +kernel
theorem dX8_kept_20 : decode cX8_kept 20 = .ok (.iadd, 1) := by decide +kernel
theorem dX8_kept_21 : decode cX8_kept 21 = .ok (.if_icmp .ge 47, 3) := by decide +kernel
theorem dX8_kept_24 : decode cX8_kept 24 = .ok (.aload_n 0, 1) := by decide +kernel
theorem dX8_kept_25 : decode cX8_kept 25 = .ok (.invokevirtual 56, 3) := by decide +kernel
theorem dX8_kept_28 : decode cX8_kept 28 = .ok (.ifCond .eq 40, 3) := by decide +kernel
theorem dX8_kept_31 : decode cX8_kept 31 = .ok (.iload_n 1, 1) := by decide +kernel
theorem dX8_kept_32 : decode cX8_kept 32 = .ok (.aload_n 0, 1) := by decide +kernel
theorem dX8_kept_33 : decode cX8_kept 33 = .ok (.iload_n 2, 1) := by decide +kernel
theorem dX8_kept_34 : decode cX8_kept 34 = .ok (.invokevirtual 48, 3) := by decide +kernel
theorem dX8_kept_37 : decode cX8_kept 37 = .ok (.ifCond .eq 22, 3) := by decide +kernel
theorem dX8_kept_40 : decode cX8_kept 40 = .ok (.aload_n 0, 1) := by decide +kernel
theorem dX8_kept_41 : decode cX8_kept 41 = .ok (.iload_n 2, 1) := by decide +kernel
theorem dX8_kept_42 : decode cX8_kept 42 = .ok (.iconst 3, 1) := by decide +kernel
theorem dX8_kept_43 : decode cX8_kept 43 = .ok (.invokevirtual 44, 3) := by decide +kernel
theorem dX8_kept_46 : decode cX8_kept 46 = .ok (.bipush (-9), 2) := by decide +kernel
theorem dX8_kept_48 : decode cX8_kept 48 = .ok (.if_icmp .ne 11, 3) := by decide +kernel
theorem dX8_kept_51 : decode cX8_kept 51 = .ok (.aload_n 0, 1) := by decide +kernel
theorem dX8_kept_52 : decode cX8_kept 52 = .ok (.iload_n 2, 1) := by decide +kernel
theorem dX8_kept_53 : decode cX8_kept 53 = .ok (.invokevirtual 60, 3) := by decide +kernel
theorem dX8_kept_56 : decode cX8_kept 56 = .ok (.goto 4, 3) := by decide +kernel
theorem dX8_kept_59 : decode cX8_kept 59 = .ok (.iconst 0, 1) := by decide +kernel
theorem dX8_kept_60 : decode cX8_kept 60 = .ok (.iadd, 1) := by decide +kernel
theorem dX8_kept_61 : decode cX8_kept 61 = .ok (.istore_n 1, 1) := by decide +kernel
theorem dX8_kept_62 : decode cX8_kept 62 = .ok (.iinc 2 1, 3) := by decide +kernel
theorem dX8_kept_65 : decode cX8_kept 65 = .ok (.goto (-55), 3) := by decide +kernel
theorem dX8_kept_68 : decode cX8_kept 68 = .ok (.iload_n 1, 1) := by decide +kernel
theorem dX8_kept_69 : decode cX8_kept 69 = .ok (.ireturn, 1) := by decide +kernel
theorem dX8_lays_0 : decode cX8_lays 0 = .ok (.sipush 185, 3) := by decide +kernel
theorem dX8_lays_3 : decode cX8_lays 3 = .ok (.iconst 5, 1) := by decide +kernel
theorem dX8_lays_4 : decode cX8_lays 4 = .ok (.iload_n 1, 1) := by decide +kernel
theorem dX8_lays_5 : decode cX8_lays 5 = .ok (.imul, 1) := by decide +kernel
theorem dX8_lays_6 : decode cX8_lays 6 = .ok (.iadd, 1) := by decide +kernel
theorem dX8_lays_7 : decode cX8_lays 7 = .ok (.istore 6, 2) := by decide +kernel
theorem dX8_lays_9 : decode cX8_lays 9 = .ok (.aload_n 0, 1) := by decide +kernel
theorem dX8_lays_10 : decode cX8_lays 10 = .ok (.getfield 7, 3) := by decide +kernel
theorem dX8_lays_13 : decode cX8_lays 13 = .ok (.iload 6, 2) := by decide +kernel
theorem dX8_lays_15 : decode cX8_lays 15 = .ok (.iconst 0, 1) := by decide +kernel
theorem dX8_lays_16 : decode cX8_lays 16 = .ok (.iadd, 1) := by decide +kernel
theorem dX8_lays_17 : decode cX8_lays 17 = .ok (.iload_n 2, 1) := by decide +kernel
theorem dX8_lays_18 : decode cX8_lays 18 = .ok (.iconst 1, 1) := by decide +kernel
theorem dX8_lays_19 : decode cX8_lays 19 = .ok (.iadd, 1) := by decide +kernel
theorem dX8_lays_20 : decode cX8_lays 20 = .ok (.iastore, 1) := by decide +kernel
theorem dX8_lays_21 : decode cX8_lays 21 = .ok (.aload_n 0, 1) := by decide +kernel
theorem dX8_lays_22 : decode cX8_lays 22 = .ok (.getfield 7, 3) := by decide +kernel
theorem dX8_lays_25 : decode cX8_lays 25 = .ok (.iload 6, 2) := by decide +kernel
theorem dX8_lays_27 : decode cX8_lays 27 = .ok (.iconst 1, 1) := by decide +kernel
theorem dX8_lays_28 : decode cX8_lays 28 = .ok (.iadd, 1) := by decide +kernel
theorem dX8_lays_29 : decode cX8_lays 29 = .ok (.iload_n 3, 1) := by decide +kernel
theorem dX8_lays_30 : decode cX8_lays 30 = .ok (.iastore, 1) := by decide +kernel
theorem dX8_lays_31 : decode cX8_lays 31 = .ok (.aload_n 0, 1) := by decide +kernel
theorem dX8_lays_32 : decode cX8_lays 32 = .ok (.getfield 7, 3) := by decide +kernel
theorem dX8_lays_35 : decode cX8_lays 35 = .ok (.iload 6, 2) := by decide +kernel
theorem dX8_lays_37 : decode cX8_lays 37 = .ok (.iconst 1, 1) := by decide +kernel
theorem dX8_lays_38 : decode cX8_lays 38 = .ok (.iadd, 1) := by decide +kernel
theorem dX8_lays_39 : decode cX8_lays 39 = .ok (.iconst 1, 1) := by decide +kernel
theorem dX8_lays_40 : decode cX8_lays 40 = .ok (.iadd, 1) := by decide +kernel
theorem dX8_lays_41 : decode cX8_lays 41 = .ok (.iload 4, 2) := by decide +kernel
theorem dX8_lays_43 : decode cX8_lays 43 = .ok (.iastore, 1) := by decide +kernel
theorem dX8_lays_44 : decode cX8_lays 44 = .ok (.aload_n 0, 1) := by decide +kernel
theorem dX8_lays_45 : decode cX8_lays 45 = .ok (.getfield 7, 3) := by decide +kernel
theorem dX8_lays_48 : decode cX8_lays 48 = .ok (.iload 6, 2) := by decide +kernel
theorem dX8_lays_50 : decode cX8_lays 50 = .ok (.iconst 3, 1) := by decide +kernel
theorem dX8_lays_51 : decode cX8_lays 51 = .ok (.iadd, 1) := by decide +kernel
theorem dX8_lays_52 : decode cX8_lays 52 = .ok (.bipush (-9), 2) := by decide +kernel
theorem dX8_lays_54 : decode cX8_lays 54 = .ok (.iastore, 1) := by decide +kernel
theorem dX8_lays_55 : decode cX8_lays 55 = .ok (.aload_n 0, 1) := by decide +kernel
theorem dX8_lays_56 : decode cX8_lays 56 = .ok (.getfield 7, 3) := by decide +kernel
theorem dX8_lays_59 : decode cX8_lays 59 = .ok (.iload 6, 2) := by decide +kernel
theorem dX8_lays_61 : decode cX8_lays 61 = .ok (.iconst 4, 1) := by decide +kernel
theorem dX8_lays_62 : decode cX8_lays 62 = .ok (.iadd, 1) := by decide +kernel
theorem dX8_lays_63 : decode cX8_lays 63 = .ok (.iload 5, 2) := by decide +kernel
theorem dX8_lays_65 : decode cX8_lays 65 = .ok (.iastore, 1) := by decide +kernel
theorem dX8_lays_66 : decode cX8_lays 66 = .ok (.return_, 1) := by decide +kernel
theorem dX8_joins_0 : decode cX8_joins 0 = .ok (.aload_n 0, 1) := by decide +kernel
theorem dX8_joins_1 : decode cX8_joins 1 = .ok (.getfield 7, 3) := by decide +kernel
theorem dX8_joins_4 : decode cX8_joins 4 = .ok (.bipush 57, 2) := by decide +kernel
theorem dX8_joins_6 : decode cX8_joins 6 = .ok (.aload_n 0, 1) := by decide +kernel
theorem dX8_joins_7 : decode cX8_joins 7 = .ok (.getfield 7, 3) := by decide +kernel
theorem dX8_joins_10 : decode cX8_joins 10 = .ok (.bipush 8, 2) := by decide +kernel
theorem dX8_joins_12 : decode cX8_joins 12 = .ok (.iaload, 1) := by decide +kernel
theorem dX8_joins_13 : decode cX8_joins 13 = .ok (.iadd, 1) := by decide +kernel
theorem dX8_joins_14 : decode cX8_joins 14 = .ok (.iload_n 1, 1) := by decide +kernel
theorem dX8_joins_15 : decode cX8_joins 15 = .ok (.iastore, 1) := by decide +kernel
theorem dX8_joins_16 : decode cX8_joins 16 = .ok (.aload_n 0, 1) := by decide +kernel
theorem dX8_joins_17 : decode cX8_joins 17 = .ok (.getfield 7, 3) := by decide +kernel
theorem dX8_joins_20 : decode cX8_joins 20 = .ok (.bipush 8, 2) := by decide +kernel
theorem dX8_joins_22 : decode cX8_joins 22 = .ok (.dup2, 1) := by decide +kernel
theorem dX8_joins_23 : decode cX8_joins 23 = .ok (.iaload, 1) := by decide +kernel
theorem dX8_joins_24 : decode cX8_joins 24 = .ok (.iconst 1, 1) := by decide +kernel
theorem dX8_joins_25 : decode cX8_joins 25 = .ok (.iadd, 1) := by decide +kernel
theorem dX8_joins_26 : decode cX8_joins 26 = .ok (.iastore, 1) := by decide +kernel
theorem dX8_joins_27 : decode cX8_joins 27 = .ok (.return_, 1) := by decide +kernel
set_option maxRecDepth 20000 in
theorem ggX8_laysInHalf_X8_lays : GoodIn wsX8_laysInHalf wsX8_lays := goodIn_r _ [6, 1, 7, 8, 9, 10, 11, 12, 13, 14, 15, 16, 17, 18] (by decide +kernel) (by decide +kernel)
set_option maxRecDepth 20000 in
theorem gX8_laysInHalf_X8_lays : GoodIn wsX8_laysInHalf (wsV RX8 64 RX8 yX8_lays wsX8_lays) := goodIn_app (goodIn_of _ (by decide +kernel)) ggX8_laysInHalf_X8_lays
theorem dX8_laysInHalf_0 : decode cX8_laysInHalf 0 = .ok (.bipush 64, 2) := by decide +kernel
theorem dX8_laysInHalf_2 : decode cX8_laysInHalf 2 = .ok (.aload_n 0, 1) := by decide +kernel
theorem dX8_laysInHalf_3 : decode cX8_laysInHalf 3 = .ok (.getfield 7, 3) := by decide +kernel
theorem dX8_laysInHalf_6 : decode cX8_laysInHalf 6 = .ok (.iconst 3, 1) := by decide +kernel
theorem dX8_laysInHalf_7 : decode cX8_laysInHalf 7 = .ok (.iaload, 1) := by decide +kernel
theorem dX8_laysInHalf_8 : decode cX8_laysInHalf 8 = .ok (.imul, 1) := by decide +kernel
theorem dX8_laysInHalf_9 : decode cX8_laysInHalf 9 = .ok (.aload_n 0, 1) := by decide +kernel
theorem dX8_laysInHalf_10 : decode cX8_laysInHalf 10 = .ok (.getfield 7, 3) := by decide +kernel
theorem dX8_laysInHalf_13 : decode cX8_laysInHalf 13 = .ok (.iconst 4, 1) := by decide +kernel
theorem dX8_laysInHalf_14 : decode cX8_laysInHalf 14 = .ok (.aload_n 0, 1) := by decide +kernel
theorem dX8_laysInHalf_15 : decode cX8_laysInHalf 15 = .ok (.getfield 7, 3) := by decide +kernel
theorem dX8_laysInHalf_18 : decode cX8_laysInHalf 18 = .ok (.iconst 3, 1) := by decide +kernel
theorem dX8_laysInHalf_19 : decode cX8_laysInHalf 19 = .ok (.iaload, 1) := by decide +kernel
theorem dX8_laysInHalf_20 : decode cX8_laysInHalf 20 = .ok (.iadd, 1) := by decide +kernel
theorem dX8_laysInHalf_21 : decode cX8_laysInHalf 21 = .ok (.iaload, 1) := by decide +kernel
theorem dX8_laysInHalf_22 : decode cX8_laysInHalf 22 = .ok (.iadd, 1) := by decide +kernel
theorem dX8_laysInHalf_23 : decode cX8_laysInHalf 23 = .ok (.istore 4, 2) := by decide +kernel
theorem dX8_laysInHalf_25 : decode cX8_laysInHalf 25 = .ok (.aload_n 0, 1) := by decide +kernel
theorem dX8_laysInHalf_26 : decode cX8_laysInHalf 26 = .ok (.iload 4, 2) := by decide +kernel
theorem dX8_laysInHalf_28 : decode cX8_laysInHalf 28 = .ok (.iload_n 1, 1) := by decide +kernel
theorem dX8_laysInHalf_29 : decode cX8_laysInHalf 29 = .ok (.iload_n 2, 1) := by decide +kernel
theorem dX8_laysInHalf_30 : decode cX8_laysInHalf 30 = .ok (.iload_n 3, 1) := by decide +kernel
theorem dX8_laysInHalf_31 : decode cX8_laysInHalf 31 = .ok (.iconst 0, 1) := by decide +kernel
theorem dX8_laysInHalf_32 : decode cX8_laysInHalf 32 = .ok (.invokevirtual 64, 3) := by decide +kernel
theorem dX8_laysInHalf_35 : decode cX8_laysInHalf 35 = .ok (.aload_n 0, 1) := by decide +kernel
theorem dX8_laysInHalf_36 : decode cX8_laysInHalf 36 = .ok (.getfield 7, 3) := by decide +kernel
theorem dX8_laysInHalf_39 : decode cX8_laysInHalf 39 = .ok (.iconst 4, 1) := by decide +kernel
theorem dX8_laysInHalf_40 : decode cX8_laysInHalf 40 = .ok (.aload_n 0, 1) := by decide +kernel
theorem dX8_laysInHalf_41 : decode cX8_laysInHalf 41 = .ok (.getfield 7, 3) := by decide +kernel
theorem dX8_laysInHalf_44 : decode cX8_laysInHalf 44 = .ok (.iconst 3, 1) := by decide +kernel
theorem dX8_laysInHalf_45 : decode cX8_laysInHalf 45 = .ok (.iaload, 1) := by decide +kernel
theorem dX8_laysInHalf_46 : decode cX8_laysInHalf 46 = .ok (.iadd, 1) := by decide +kernel
theorem dX8_laysInHalf_47 : decode cX8_laysInHalf 47 = .ok (.dup2, 1) := by decide +kernel
theorem dX8_laysInHalf_48 : decode cX8_laysInHalf 48 = .ok (.iaload, 1) := by decide +kernel
theorem dX8_laysInHalf_49 : decode cX8_laysInHalf 49 = .ok (.aload_n 0, 1) := by decide +kernel
theorem dX8_laysInHalf_50 : decode cX8_laysInHalf 50 = .ok (.getfield 7, 3) := by decide +kernel
theorem dX8_laysInHalf_53 : decode cX8_laysInHalf 53 = .ok (.bipush 17, 2) := by decide +kernel
theorem dX8_laysInHalf_55 : decode cX8_laysInHalf 55 = .ok (.iload_n 1, 1) := by decide +kernel
theorem dX8_laysInHalf_56 : decode cX8_laysInHalf 56 = .ok (.iadd, 1) := by decide +kernel
theorem dX8_laysInHalf_57 : decode cX8_laysInHalf 57 = .ok (.iaload, 1) := by decide +kernel
theorem dX8_laysInHalf_58 : decode cX8_laysInHalf 58 = .ok (.iadd, 1) := by decide +kernel
theorem dX8_laysInHalf_59 : decode cX8_laysInHalf 59 = .ok (.iastore, 1) := by decide +kernel
theorem dX8_laysInHalf_60 : decode cX8_laysInHalf 60 = .ok (.iload 4, 2) := by decide +kernel
theorem dX8_laysInHalf_62 : decode cX8_laysInHalf 62 = .ok (.ireturn, 1) := by decide +kernel
set_option maxRecDepth 20000 in
theorem ggX8_carries_X8_ofCopy : GoodIn wsX8_carries wsX8_ofCopy := goodIn_r _ [6, 1, 22, 23, 24, 25, 26, 27, 28, 29, 30, 31, 32, 33] (by decide +kernel) (by decide +kernel)
set_option maxRecDepth 20000 in
theorem gX8_carries_X8_ofCopy : GoodIn wsX8_carries (wsV RX8 44 RX8 yX8_ofCopy wsX8_ofCopy) := goodIn_app (goodIn_of _ (by decide +kernel)) ggX8_carries_X8_ofCopy
set_option maxRecDepth 20000 in
theorem ggX8_carries_X8_laysInHalf : GoodIn wsX8_carries wsX8_laysInHalf := goodIn_r _ [10, 1, 11, 12, 13, 5, 14, 22, 23, 24, 25, 26, 27, 28, 29, 30, 31, 32, 33] (by decide +kernel) (by decide +kernel)
set_option maxRecDepth 20000 in
theorem gX8_carries_X8_laysInHalf : GoodIn wsX8_carries (wsV RX8 68 RX8 yX8_laysInHalf wsX8_laysInHalf) := goodIn_app (goodIn_of _ (by decide +kernel)) ggX8_carries_X8_laysInHalf
set_option maxRecDepth 20000 in
theorem ggX8_carries_X8_joins : GoodIn wsX8_carries wsX8_joins := goodIn_r _ [18, 1, 22, 23, 24, 25, 26, 27, 28, 29, 30, 31, 32, 33] (by decide +kernel) (by decide +kernel)
set_option maxRecDepth 20000 in
theorem gX8_carries_X8_joins : GoodIn wsX8_carries (wsV RX8 72 RX8 yX8_joins wsX8_joins) := goodIn_app (goodIn_of _ (by decide +kernel)) ggX8_carries_X8_joins
set_option maxRecDepth 20000 in
theorem ggX8_carries_X8_address : GoodIn wsX8_carries wsX8_address := goodIn_r _ [21] (by decide +kernel) (by decide +kernel)
set_option maxRecDepth 20000 in
theorem gX8_carries_X8_address : GoodIn wsX8_carries (va_wsS RX8 76 yX8_address wsX8_address) := goodIn_app (goodIn_of _ (by decide +kernel)) ggX8_carries_X8_address
theorem dX8_carries_0 : decode cX8_carries 0 = .ok (.aload_n 0, 1) := by decide +kernel
theorem dX8_carries_1 : decode cX8_carries 1 = .ok (.aload_n 0, 1) := by decide +kernel
theorem dX8_carries_2 : decode cX8_carries 2 = .ok (.iload_n 1, 1) := by decide +kernel
theorem dX8_carries_3 : decode cX8_carries 3 = .ok (.iconst 0, 1) := by decide +kernel
theorem dX8_carries_4 : decode cX8_carries 4 = .ok (.invokevirtual 44, 3) := by decide +kernel
theorem dX8_carries_7 : decode cX8_carries 7 = .ok (.iconst 1, 1) := by decide +kernel
theorem dX8_carries_8 : decode cX8_carries 8 = .ok (.isub, 1) := by decide +kernel
theorem dX8_carries_9 : decode cX8_carries 9 = .ok (.aload_n 0, 1) := by decide +kernel
theorem dX8_carries_10 : decode cX8_carries 10 = .ok (.iload_n 1, 1) := by decide +kernel
theorem dX8_carries_11 : decode cX8_carries 11 = .ok (.iconst 1, 1) := by decide +kernel
theorem dX8_carries_12 : decode cX8_carries 12 = .ok (.invokevirtual 44, 3) := by decide +kernel
theorem dX8_carries_15 : decode cX8_carries 15 = .ok (.aload_n 0, 1) := by decide +kernel
theorem dX8_carries_16 : decode cX8_carries 16 = .ok (.iload_n 1, 1) := by decide +kernel
theorem dX8_carries_17 : decode cX8_carries 17 = .ok (.iconst 2, 1) := by decide +kernel
theorem dX8_carries_18 : decode cX8_carries 18 = .ok (.invokevirtual 44, 3) := by decide +kernel
theorem dX8_carries_21 : decode cX8_carries 21 = .ok (.invokevirtual 68, 3) := by decide +kernel
theorem dX8_carries_24 : decode cX8_carries 24 = .ok (.istore_n 2, 1) := by decide +kernel
theorem dX8_carries_25 : decode cX8_carries 25 = .ok (.aload_n 0, 1) := by decide +kernel
theorem dX8_carries_26 : decode cX8_carries 26 = .ok (.iload_n 2, 1) := by decide +kernel
theorem dX8_carries_27 : decode cX8_carries 27 = .ok (.invokevirtual 72, 3) := by decide +kernel
theorem dX8_carries_30 : decode cX8_carries 30 = .ok (.aload_n 0, 1) := by decide +kernel
theorem dX8_carries_31 : decode cX8_carries 31 = .ok (.getfield 7, 3) := by decide +kernel
theorem dX8_carries_34 : decode cX8_carries 34 = .ok (.sipush 185, 3) := by decide +kernel
theorem dX8_carries_37 : decode cX8_carries 37 = .ok (.iconst 5, 1) := by decide +kernel
theorem dX8_carries_38 : decode cX8_carries 38 = .ok (.iload_n 1, 1) := by decide +kernel
theorem dX8_carries_39 : decode cX8_carries 39 = .ok (.imul, 1) := by decide +kernel
theorem dX8_carries_40 : decode cX8_carries 40 = .ok (.iadd, 1) := by decide +kernel
theorem dX8_carries_41 : decode cX8_carries 41 = .ok (.iconst 3, 1) := by decide +kernel
theorem dX8_carries_42 : decode cX8_carries 42 = .ok (.iadd, 1) := by decide +kernel
theorem dX8_carries_43 : decode cX8_carries 43 = .ok (.iload_n 2, 1) := by decide +kernel
theorem dX8_carries_44 : decode cX8_carries 44 = .ok (.invokestatic 76, 3) := by decide +kernel
theorem dX8_carries_47 : decode cX8_carries 47 = .ok (.iastore, 1) := by decide +kernel
theorem dX8_carries_48 : decode cX8_carries 48 = .ok (.iload_n 2, 1) := by decide +kernel
theorem dX8_carries_49 : decode cX8_carries 49 = .ok (.invokestatic 76, 3) := by decide +kernel
theorem dX8_carries_52 : decode cX8_carries 52 = .ok (.ireturn, 1) := by decide +kernel
set_option maxRecDepth 20000 in
theorem ggX8_reads_X8_isMoving : GoodIn wsX8_reads wsX8_isMoving := goodIn_r _ [6, 1, 37, 38, 39, 40, 41, 42, 43, 44, 45, 46, 47, 48] (by decide +kernel) (by decide +kernel)
set_option maxRecDepth 20000 in
theorem gX8_reads_X8_isMoving : GoodIn wsX8_reads (wsV RX8 56 RX8 yX8_isMoving wsX8_isMoving) := goodIn_app (goodIn_of _ (by decide +kernel)) ggX8_reads_X8_isMoving
set_option maxRecDepth 20000 in
theorem ggX8_reads_X8_cell : GoodIn wsX8_reads wsX8_cell := goodIn_r _ [9] (by decide +kernel) (by decide +kernel)
set_option maxRecDepth 20000 in
theorem gX8_reads_X8_cell : GoodIn wsX8_reads (va_wsS RX8 79 yX8_cell wsX8_cell) := goodIn_app (goodIn_of _ (by decide +kernel)) ggX8_reads_X8_cell
set_option maxRecDepth 20000 in
theorem ggX8_reads_X8_old : GoodIn wsX8_reads wsX8_old := goodIn_r _ [13, 1, 37, 38, 39, 40, 41, 42, 43, 44, 45, 46, 47, 48] (by decide +kernel) (by decide +kernel)
set_option maxRecDepth 20000 in
theorem gX8_reads_X8_old : GoodIn wsX8_reads (wsV RX8 52 RX8 yX8_old wsX8_old) := goodIn_app (goodIn_of _ (by decide +kernel)) ggX8_reads_X8_old
set_option maxRecDepth 20000 in
theorem ggX8_reads_X8_ofCopy : GoodIn wsX8_reads wsX8_ofCopy := goodIn_r _ [17, 1, 37, 38, 39, 40, 41, 42, 43, 44, 45, 46, 47, 48] (by decide +kernel) (by decide +kernel)
set_option maxRecDepth 20000 in
theorem gX8_reads_X8_ofCopy : GoodIn wsX8_reads (wsV RX8 44 RX8 yX8_ofCopy wsX8_ofCopy) := goodIn_app (goodIn_of _ (by decide +kernel)) ggX8_reads_X8_ofCopy
set_option maxRecDepth 20000 in
theorem ggX8_reads_X8_carries : GoodIn wsX8_reads wsX8_carries := goodIn_r _ [21, 1, 14, 15, 16, 5, 17, 22, 23, 24, 25, 26, 27, 28, 29, 30, 31, 32, 33, 34, 35, 36, 37, 38, 39, 40, 41, 42, 43, 44, 45, 46, 47, 48] (by decide +kernel) (by decide +kernel)
set_option maxRecDepth 20000 in
theorem gX8_reads_X8_carries : GoodIn wsX8_reads (wsV RX8 82 RX8 yX8_carries wsX8_carries) := goodIn_app (goodIn_of _ (by decide +kernel)) ggX8_reads_X8_carries
set_option maxRecDepth 20000 in
theorem ggX8_reads_X8_joins : GoodIn wsX8_reads wsX8_joins := goodIn_r _ [33, 1, 37, 38, 39, 40, 41, 42, 43, 44, 45, 46, 47, 48] (by decide +kernel) (by decide +kernel)
set_option maxRecDepth 20000 in
theorem gX8_reads_X8_joins : GoodIn wsX8_reads (wsV RX8 72 RX8 yX8_joins wsX8_joins) := goodIn_app (goodIn_of _ (by decide +kernel)) ggX8_reads_X8_joins
theorem dX8_reads_0 : decode cX8_reads 0 = .ok (.aload_n 0, 1) := by decide +kernel
theorem dX8_reads_1 : decode cX8_reads 1 = .ok (.getfield 7, 3) := by decide +kernel
theorem dX8_reads_4 : decode cX8_reads 4 = .ok (.iload_n 1, 1) := by decide +kernel
theorem dX8_reads_5 : decode cX8_reads 5 = .ok (.iaload, 1) := by decide +kernel
theorem dX8_reads_6 : decode cX8_reads 6 = .ok (.istore_n 2, 1) := by decide +kernel
theorem dX8_reads_7 : decode cX8_reads 7 = .ok (.iload_n 2, 1) := by decide +kernel
theorem dX8_reads_8 : decode cX8_reads 8 = .ok (.bipush (-9), 2) := by decide +kernel
theorem dX8_reads_10 : decode cX8_reads 10 = .ok (.if_icmp .eq 10, 3) := by decide +kernel
theorem dX8_reads_13 : decode cX8_reads 13 = .ok (.aload_n 0, 1) := by decide +kernel
theorem dX8_reads_14 : decode cX8_reads 14 = .ok (.invokevirtual 56, 3) := by decide +kernel
theorem dX8_reads_17 : decode cX8_reads 17 = .ok (.ifCond .ne 4, 3) := by decide +kernel
theorem dX8_reads_20 : decode cX8_reads 20 = .ok (.return_, 1) := by decide +kernel
theorem dX8_reads_21 : decode cX8_reads 21 = .ok (.iload_n 2, 1) := by decide +kernel
theorem dX8_reads_22 : decode cX8_reads 22 = .ok (.invokestatic 79, 3) := by decide +kernel
theorem dX8_reads_25 : decode cX8_reads 25 = .ok (.istore_n 3, 1) := by decide +kernel
theorem dX8_reads_26 : decode cX8_reads 26 = .ok (.iload_n 2, 1) := by decide +kernel
theorem dX8_reads_27 : decode cX8_reads 27 = .ok (.bipush 100, 2) := by decide +kernel
theorem dX8_reads_29 : decode cX8_reads 29 = .ok (.idiv, 1) := by decide +kernel
theorem dX8_reads_30 : decode cX8_reads 30 = .ok (.aload_n 0, 1) := by decide +kernel
theorem dX8_reads_31 : decode cX8_reads 31 = .ok (.invokevirtual 52, 3) := by decide +kernel
theorem dX8_reads_34 : decode cX8_reads 34 = .ok (.if_icmp .ne 37, 3) := by decide +kernel
theorem dX8_reads_37 : decode cX8_reads 37 = .ok (.aload_n 0, 1) := by decide +kernel
theorem dX8_reads_38 : decode cX8_reads 38 = .ok (.getfield 7, 3) := by decide +kernel
theorem dX8_reads_41 : decode cX8_reads 41 = .ok (.iload_n 1, 1) := by decide +kernel
theorem dX8_reads_42 : decode cX8_reads 42 = .ok (.aload_n 0, 1) := by decide +kernel
theorem dX8_reads_43 : decode cX8_reads 43 = .ok (.iload_n 3, 1) := by decide +kernel
theorem dX8_reads_44 : decode cX8_reads 44 = .ok (.iconst 3, 1) := by decide +kernel
theorem dX8_reads_45 : decode cX8_reads 45 = .ok (.invokevirtual 44, 3) := by decide +kernel
theorem dX8_reads_48 : decode cX8_reads 48 = .ok (.bipush (-9), 2) := by decide +kernel
theorem dX8_reads_50 : decode cX8_reads 50 = .ok (.if_icmp .eq 12, 3) := by decide +kernel
theorem dX8_reads_53 : decode cX8_reads 53 = .ok (.aload_n 0, 1) := by decide +kernel
theorem dX8_reads_54 : decode cX8_reads 54 = .ok (.iload_n 3, 1) := by decide +kernel
theorem dX8_reads_55 : decode cX8_reads 55 = .ok (.iconst 3, 1) := by decide +kernel
theorem dX8_reads_56 : decode cX8_reads 56 = .ok (.invokevirtual 44, 3) := by decide +kernel
theorem dX8_reads_59 : decode cX8_reads 59 = .ok (.goto 8, 3) := by decide +kernel
theorem dX8_reads_62 : decode cX8_reads 62 = .ok (.aload_n 0, 1) := by decide +kernel
theorem dX8_reads_63 : decode cX8_reads 63 = .ok (.iload_n 3, 1) := by decide +kernel
theorem dX8_reads_64 : decode cX8_reads 64 = .ok (.invokevirtual 82, 3) := by decide +kernel
theorem dX8_reads_67 : decode cX8_reads 67 = .ok (.iastore, 1) := by decide +kernel
theorem dX8_reads_68 : decode cX8_reads 68 = .ok (.goto 40, 3) := by decide +kernel
theorem dX8_reads_71 : decode cX8_reads 71 = .ok (.iload_n 2, 1) := by decide +kernel
theorem dX8_reads_72 : decode cX8_reads 72 = .ok (.bipush 100, 2) := by decide +kernel
theorem dX8_reads_74 : decode cX8_reads 74 = .ok (.idiv, 1) := by decide +kernel
theorem dX8_reads_75 : decode cX8_reads 75 = .ok (.iconst 2, 1) := by decide +kernel
theorem dX8_reads_76 : decode cX8_reads 76 = .ok (.if_icmp .ne 32, 3) := by decide +kernel
theorem dX8_reads_79 : decode cX8_reads 79 = .ok (.aload_n 0, 1) := by decide +kernel
theorem dX8_reads_80 : decode cX8_reads 80 = .ok (.iload_n 3, 1) := by decide +kernel
theorem dX8_reads_81 : decode cX8_reads 81 = .ok (.iconst 4, 1) := by decide +kernel
theorem dX8_reads_82 : decode cX8_reads 82 = .ok (.invokevirtual 44, 3) := by decide +kernel
theorem dX8_reads_85 : decode cX8_reads 85 = .ok (.ifCond .ne 23, 3) := by decide +kernel
theorem dX8_reads_88 : decode cX8_reads 88 = .ok (.aload_n 0, 1) := by decide +kernel
theorem dX8_reads_89 : decode cX8_reads 89 = .ok (.getfield 7, 3) := by decide +kernel
theorem dX8_reads_92 : decode cX8_reads 92 = .ok (.sipush 185, 3) := by decide +kernel
theorem dX8_reads_95 : decode cX8_reads 95 = .ok (.iconst 5, 1) := by decide +kernel
theorem dX8_reads_96 : decode cX8_reads 96 = .ok (.iload_n 3, 1) := by decide +kernel
theorem dX8_reads_97 : decode cX8_reads 97 = .ok (.imul, 1) := by decide +kernel
theorem dX8_reads_98 : decode cX8_reads 98 = .ok (.iadd, 1) := by decide +kernel
theorem dX8_reads_99 : decode cX8_reads 99 = .ok (.iconst 4, 1) := by decide +kernel
theorem dX8_reads_100 : decode cX8_reads 100 = .ok (.iadd, 1) := by decide +kernel
theorem dX8_reads_101 : decode cX8_reads 101 = .ok (.iconst 1, 1) := by decide +kernel
theorem dX8_reads_102 : decode cX8_reads 102 = .ok (.iastore, 1) := by decide +kernel
theorem dX8_reads_103 : decode cX8_reads 103 = .ok (.aload_n 0, 1) := by decide +kernel
theorem dX8_reads_104 : decode cX8_reads 104 = .ok (.iload_n 3, 1) := by decide +kernel
theorem dX8_reads_105 : decode cX8_reads 105 = .ok (.invokevirtual 72, 3) := by decide +kernel
theorem dX8_reads_108 : decode cX8_reads 108 = .ok (.return_, 1) := by decide +kernel
set_option maxRecDepth 20000 in
theorem ggX8_ends_X8_old : GoodIn wsX8_ends wsX8_old := goodIn_r _ [6, 1, 11, 12, 13, 14, 15, 16, 17, 18, 19, 20, 21, 22] (by decide +kernel) (by decide +kernel)
set_option maxRecDepth 20000 in
theorem gX8_ends_X8_old : GoodIn wsX8_ends (wsV RX8 52 RX8 yX8_old wsX8_old) := goodIn_app (goodIn_of _ (by decide +kernel)) ggX8_ends_X8_old
set_option maxRecDepth 20000 in
theorem ggX8_ends_X8_ofCopy : GoodIn wsX8_ends wsX8_ofCopy := goodIn_r _ [10, 1, 11, 12, 13, 14, 15, 16, 17, 18, 19, 20, 21, 22] (by decide +kernel) (by decide +kernel)
set_option maxRecDepth 20000 in
theorem gX8_ends_X8_ofCopy : GoodIn wsX8_ends (wsV RX8 44 RX8 yX8_ofCopy wsX8_ofCopy) := goodIn_app (goodIn_of _ (by decide +kernel)) ggX8_ends_X8_ofCopy
theorem dX8_ends_0 : decode cX8_ends 0 = .ok (.aload_n 0, 1) := by decide +kernel
theorem dX8_ends_1 : decode cX8_ends 1 = .ok (.getfield 7, 3) := by decide +kernel
theorem dX8_ends_4 : decode cX8_ends 4 = .ok (.bipush 8, 2) := by decide +kernel
theorem dX8_ends_6 : decode cX8_ends 6 = .ok (.iaload, 1) := by decide +kernel
theorem dX8_ends_7 : decode cX8_ends 7 = .ok (.ifCond .le 4, 3) := by decide +kernel
theorem dX8_ends_10 : decode cX8_ends 10 = .ok (.return_, 1) := by decide +kernel
theorem dX8_ends_11 : decode cX8_ends 11 = .ok (.iconst 0, 1) := by decide +kernel
theorem dX8_ends_12 : decode cX8_ends 12 = .ok (.istore_n 1, 1) := by decide +kernel
theorem dX8_ends_13 : decode cX8_ends 13 = .ok (.iload_n 1, 1) := by decide +kernel
theorem dX8_ends_14 : decode cX8_ends 14 = .ok (.sipush 188, 3) := by decide +kernel
theorem dX8_ends_17 : decode cX8_ends 17 = .ok (.if_icmp .ge 85, 3) := by decide +kernel
theorem dX8_ends_20 : decode cX8_ends 20 = .ok (.iload_n 1, 1) := by decide +kernel
theorem dX8_ends_21 : decode cX8_ends 21 = .ok (.bipush 64, 2) := by decide +kernel
theorem dX8_ends_23 : decode cX8_ends 23 = .ok (.idiv, 1) := by decide +kernel
theorem dX8_ends_24 : decode cX8_ends 24 = .ok (.aload_n 0, 1) := by decide +kernel
theorem dX8_ends_25 : decode cX8_ends 25 = .ok (.invokevirtual 52, 3) := by decide +kernel
theorem dX8_ends_28 : decode cX8_ends 28 = .ok (.if_icmp .eq 19, 3) := by decide +kernel
theorem dX8_ends_31 : decode cX8_ends 31 = .ok (.iload_n 1, 1) := by decide +kernel
theorem dX8_ends_32 : decode cX8_ends 32 = .ok (.sipush 128, 3) := by decide +kernel
theorem dX8_ends_35 : decode cX8_ends 35 = .ok (.if_icmp .lt 16, 3) := by decide +kernel
theorem dX8_ends_38 : decode cX8_ends 38 = .ok (.aload_n 0, 1) := by decide +kernel
theorem dX8_ends_39 : decode cX8_ends 39 = .ok (.iload_n 1, 1) := by decide +kernel
theorem dX8_ends_40 : decode cX8_ends 40 = .ok (.iconst 4, 1) := by decide +kernel
theorem dX8_ends_41 : decode cX8_ends 41 = .ok (.invokevirtual 44, 3) := by decide +kernel
theorem dX8_ends_44 : decode cX8_ends 44 = .ok (.ifCond .ne 7, 3) := by decide +kernel
theorem dX8_ends_47 : decode cX8_ends 47 = .ok (.iconst 1, 1) := by decide +kernel
theorem dX8_ends_48 : decode cX8_ends 48 = .ok (.goto 4, 3) := by decide +kernel
theorem dX8_ends_51 : decode cX8_ends 51 = .ok (.iconst 0, 1) := by decide +kernel
theorem dX8_ends_52 : decode cX8_ends 52 = .ok (.istore_n 2, 1) := by decide +kernel
theorem dX8_ends_53 : decode cX8_ends 53 = .ok (.aload_n 0, 1) := by decide +kernel
theorem dX8_ends_54 : decode cX8_ends 54 = .ok (.getfield 7, 3) := by decide +kernel
theorem dX8_ends_57 : decode cX8_ends 57 = .ok (.sipush 185, 3) := by decide +kernel
theorem dX8_ends_60 : decode cX8_ends 60 = .ok (.iconst 5, 1) := by decide +kernel
theorem dX8_ends_61 : decode cX8_ends 61 = .ok (.iload_n 1, 1) := by decide +kernel
theorem dX8_ends_62 : decode cX8_ends 62 = .ok (.imul, 1) := by decide +kernel
theorem dX8_ends_63 : decode cX8_ends 63 = .ok (.iadd, 1) := by decide +kernel
theorem dX8_ends_64 : decode cX8_ends 64 = .ok (.iconst 0, 1) := by decide +kernel
theorem dX8_ends_65 : decode cX8_ends 65 = .ok (.iadd, 1) := by decide +kernel
theorem dX8_ends_66 : decode cX8_ends 66 = .ok (.iload_n 2, 1) := by decide +kernel
theorem dX8_ends_67 : decode cX8_ends 67 = .ok (.ifCond .eq 7, 3) := by decide +kernel
theorem dX8_ends_70 : decode cX8_ends 70 = .ok (.iconst 0, 1) := by decide +kernel
theorem dX8_ends_71 : decode cX8_ends 71 = .ok (.goto 9, 3) := by decide +kernel
theorem dX8_ends_74 : decode cX8_ends 74 = .ok (.aload_n 0, 1) := by decide +kernel
theorem dX8_ends_75 : decode cX8_ends 75 = .ok (.iload_n 1, 1) := by decide +kernel
theorem dX8_ends_76 : decode cX8_ends 76 = .ok (.iconst 0, 1) := by decide +kernel
theorem dX8_ends_77 : decode cX8_ends 77 = .ok (.invokevirtual 44, 3) := by decide +kernel
theorem dX8_ends_80 : decode cX8_ends 80 = .ok (.iastore, 1) := by decide +kernel
theorem dX8_ends_81 : decode cX8_ends 81 = .ok (.aload_n 0, 1) := by decide +kernel
theorem dX8_ends_82 : decode cX8_ends 82 = .ok (.getfield 7, 3) := by decide +kernel
theorem dX8_ends_85 : decode cX8_ends 85 = .ok (.sipush 185, 3) := by decide +kernel
theorem dX8_ends_88 : decode cX8_ends 88 = .ok (.iconst 5, 1) := by decide +kernel
theorem dX8_ends_89 : decode cX8_ends 89 = .ok (.iload_n 1, 1) := by decide +kernel
theorem dX8_ends_90 : decode cX8_ends 90 = .ok (.imul, 1) := by decide +kernel
theorem dX8_ends_91 : decode cX8_ends 91 = .ok (.iadd, 1) := by decide +kernel
theorem dX8_ends_92 : decode cX8_ends 92 = .ok (.iconst 4, 1) := by decide +kernel
theorem dX8_ends_93 : decode cX8_ends 93 = .ok (.iadd, 1) := by decide +kernel
theorem dX8_ends_94 : decode cX8_ends 94 = .ok (.iconst 0, 1) := by decide +kernel
theorem dX8_ends_95 : decode cX8_ends 95 = .ok (.iastore, 1) := by decide +kernel
theorem dX8_ends_96 : decode cX8_ends 96 = .ok (.iinc 1 1, 3) := by decide +kernel
theorem dX8_ends_99 : decode cX8_ends 99 = .ok (.goto (-86), 3) := by decide +kernel
theorem dX8_ends_102 : decode cX8_ends 102 = .ok (.aload_n 0, 1) := by decide +kernel
theorem dX8_ends_103 : decode cX8_ends 103 = .ok (.getfield 7, 3) := by decide +kernel
theorem dX8_ends_106 : decode cX8_ends 106 = .ok (.iconst 4, 1) := by decide +kernel
theorem dX8_ends_107 : decode cX8_ends 107 = .ok (.aload_n 0, 1) := by decide +kernel
theorem dX8_ends_108 : decode cX8_ends 108 = .ok (.invokevirtual 52, 3) := by decide +kernel
theorem dX8_ends_111 : decode cX8_ends 111 = .ok (.iadd, 1) := by decide +kernel
theorem dX8_ends_112 : decode cX8_ends 112 = .ok (.iconst 0, 1) := by decide +kernel
theorem dX8_ends_113 : decode cX8_ends 113 = .ok (.iastore, 1) := by decide +kernel
theorem dX8_ends_114 : decode cX8_ends 114 = .ok (.aload_n 0, 1) := by decide +kernel
theorem dX8_ends_115 : decode cX8_ends 115 = .ok (.getfield 7, 3) := by decide +kernel
theorem dX8_ends_118 : decode cX8_ends 118 = .ok (.iconst 2, 1) := by decide +kernel
theorem dX8_ends_119 : decode cX8_ends 119 = .ok (.iconst 0, 1) := by decide +kernel
theorem dX8_ends_120 : decode cX8_ends 120 = .ok (.iastore, 1) := by decide +kernel
theorem dX8_ends_121 : decode cX8_ends 121 = .ok (.aload_n 0, 1) := by decide +kernel
theorem dX8_ends_122 : decode cX8_ends 122 = .ok (.getfield 7, 3) := by decide +kernel
theorem dX8_ends_125 : decode cX8_ends 125 = .ok (.bipush 7, 2) := by decide +kernel
theorem dX8_ends_127 : decode cX8_ends 127 = .ok (.dup2, 1) := by decide +kernel
theorem dX8_ends_128 : decode cX8_ends 128 = .ok (.iaload, 1) := by decide +kernel
theorem dX8_ends_129 : decode cX8_ends 129 = .ok (.iconst 1, 1) := by decide +kernel
theorem dX8_ends_130 : decode cX8_ends 130 = .ok (.iadd, 1) := by decide +kernel
theorem dX8_ends_131 : decode cX8_ends 131 = .ok (.iastore, 1) := by decide +kernel
theorem dX8_ends_132 : decode cX8_ends 132 = .ok (.return_, 1) := by decide +kernel
set_option maxRecDepth 20000 in
theorem ggX8_begins_X8_old : GoodIn wsX8_begins wsX8_old := goodIn_r _ [6, 1, 45, 46, 47, 48, 49, 50, 51, 52, 53, 54, 55, 56] (by decide +kernel) (by decide +kernel)
set_option maxRecDepth 20000 in
theorem gX8_begins_X8_old : GoodIn wsX8_begins (wsV RX8 52 RX8 yX8_old wsX8_old) := goodIn_app (goodIn_of _ (by decide +kernel)) ggX8_begins_X8_old
set_option maxRecDepth 20000 in
theorem ggX8_begins_X8_reads : GoodIn wsX8_begins wsX8_reads := goodIn_r _ [10, 1, 11, 12, 13, 5, 14, 15, 16, 17, 2, 3, 4, 6, 18, 19, 20, 21, 22, 23, 24, 25, 26, 27, 28, 29, 30, 31, 32, 33, 34, 35, 36, 37, 38, 39, 40, 45, 46, 47, 48, 49, 50, 51, 52, 53, 54, 55, 56] (by decide +kernel) (by decide +kernel)
set_option maxRecDepth 20000 in
theorem gX8_begins_X8_reads : GoodIn wsX8_begins (wsV RX8 85 RX8 yX8_reads wsX8_reads) := goodIn_app (goodIn_of _ (by decide +kernel)) ggX8_begins_X8_reads
set_option maxRecDepth 20000 in
theorem ggX8_begins_X8_ends : GoodIn wsX8_begins wsX8_ends := goodIn_r _ [44, 1, 2, 3, 4, 5, 6, 18, 19, 20, 21, 45, 46, 47, 48, 49, 50, 51, 52, 53, 54, 55, 56] (by decide +kernel) (by decide +kernel)
set_option maxRecDepth 20000 in
theorem gX8_begins_X8_ends : GoodIn wsX8_begins (wsV RX8 88 RX8 yX8_ends wsX8_ends) := goodIn_app (goodIn_of _ (by decide +kernel)) ggX8_begins_X8_ends
theorem dX8_begins_0 : decode cX8_begins 0 = .ok (.aload_n 0, 1) := by decide +kernel
theorem dX8_begins_1 : decode cX8_begins 1 = .ok (.getfield 7, 3) := by decide +kernel
theorem dX8_begins_4 : decode cX8_begins 4 = .ok (.iconst 3, 1) := by decide +kernel
theorem dX8_begins_5 : decode cX8_begins 5 = .ok (.aload_n 0, 1) := by decide +kernel
theorem dX8_begins_6 : decode cX8_begins 6 = .ok (.invokevirtual 52, 3) := by decide +kernel
theorem dX8_begins_9 : decode cX8_begins 9 = .ok (.iastore, 1) := by decide +kernel
theorem dX8_begins_10 : decode cX8_begins 10 = .ok (.aload_n 0, 1) := by decide +kernel
theorem dX8_begins_11 : decode cX8_begins 11 = .ok (.getfield 7, 3) := by decide +kernel
theorem dX8_begins_14 : decode cX8_begins 14 = .ok (.iconst 2, 1) := by decide +kernel
theorem dX8_begins_15 : decode cX8_begins 15 = .ok (.iconst 1, 1) := by decide +kernel
theorem dX8_begins_16 : decode cX8_begins 16 = .ok (.iastore, 1) := by decide +kernel
theorem dX8_begins_17 : decode cX8_begins 17 = .ok (.iconst 0, 1) := by decide +kernel
theorem dX8_begins_18 : decode cX8_begins 18 = .ok (.istore_n 1, 1) := by decide +kernel
theorem dX8_begins_19 : decode cX8_begins 19 = .ok (.iload_n 1, 1) := by decide +kernel
theorem dX8_begins_20 : decode cX8_begins 20 = .ok (.bipush 8, 2) := by decide +kernel
theorem dX8_begins_22 : decode cX8_begins 22 = .ok (.if_icmp .ge 17, 3) := by decide +kernel
theorem dX8_begins_25 : decode cX8_begins 25 = .ok (.aload_n 0, 1) := by decide +kernel
theorem dX8_begins_26 : decode cX8_begins 26 = .ok (.bipush 9, 2) := by decide +kernel
theorem dX8_begins_28 : decode cX8_begins 28 = .ok (.iload_n 1, 1) := by decide +kernel
theorem dX8_begins_29 : decode cX8_begins 29 = .ok (.iadd, 1) := by decide +kernel
theorem dX8_begins_30 : decode cX8_begins 30 = .ok (.invokevirtual 85, 3) := by decide +kernel
theorem dX8_begins_33 : decode cX8_begins 33 = .ok (.iinc 1 1, 3) := by decide +kernel
theorem dX8_begins_36 : decode cX8_begins 36 = .ok (.goto (-17), 3) := by decide +kernel
theorem dX8_begins_39 : decode cX8_begins 39 = .ok (.aload_n 0, 1) := by decide +kernel
theorem dX8_begins_40 : decode cX8_begins 40 = .ok (.invokevirtual 88, 3) := by decide +kernel
theorem dX8_begins_43 : decode cX8_begins 43 = .ok (.return_, 1) := by decide +kernel
set_option maxRecDepth 20000 in
theorem ggX8_steps_X8_reads : GoodIn wsX8_steps wsX8_reads := goodIn_r _ [6, 1, 7, 8, 9, 5, 10, 11, 12, 13, 14, 15, 16, 17, 18, 19, 20, 21, 22, 23, 24, 25, 26, 27, 28, 29, 30, 31, 32, 33, 34, 35, 36, 37, 38, 39, 40, 45, 46, 47, 48, 49, 50, 51, 52, 53, 54, 55, 56] (by decide +kernel) (by decide +kernel)
set_option maxRecDepth 20000 in
theorem gX8_steps_X8_reads : GoodIn wsX8_steps (wsV RX8 85 RX8 yX8_reads wsX8_reads) := goodIn_app (goodIn_of _ (by decide +kernel)) ggX8_steps_X8_reads
set_option maxRecDepth 20000 in
theorem ggX8_steps_X8_ends : GoodIn wsX8_steps wsX8_ends := goodIn_r _ [44, 1, 14, 15, 16, 5, 17, 18, 19, 20, 21, 45, 46, 47, 48, 49, 50, 51, 52, 53, 54, 55, 56] (by decide +kernel) (by decide +kernel)
set_option maxRecDepth 20000 in
theorem gX8_steps_X8_ends : GoodIn wsX8_steps (wsV RX8 88 RX8 yX8_ends wsX8_ends) := goodIn_app (goodIn_of _ (by decide +kernel)) ggX8_steps_X8_ends
theorem dX8_steps_0 : decode cX8_steps 0 = .ok (.aload_n 0, 1) := by decide +kernel
theorem dX8_steps_1 : decode cX8_steps 1 = .ok (.getfield 7, 3) := by decide +kernel
theorem dX8_steps_4 : decode cX8_steps 4 = .ok (.bipush 57, 2) := by decide +kernel
theorem dX8_steps_6 : decode cX8_steps 6 = .ok (.iaload, 1) := by decide +kernel
theorem dX8_steps_7 : decode cX8_steps 7 = .ok (.istore_n 1, 1) := by decide +kernel
theorem dX8_steps_8 : decode cX8_steps 8 = .ok (.aload_n 0, 1) := by decide +kernel
theorem dX8_steps_9 : decode cX8_steps 9 = .ok (.getfield 7, 3) := by decide +kernel
theorem dX8_steps_12 : decode cX8_steps 12 = .ok (.bipush 8, 2) := by decide +kernel
theorem dX8_steps_14 : decode cX8_steps 14 = .ok (.dup2, 1) := by decide +kernel
theorem dX8_steps_15 : decode cX8_steps 15 = .ok (.iaload, 1) := by decide +kernel
theorem dX8_steps_16 : decode cX8_steps 16 = .ok (.iconst 1, 1) := by decide +kernel
theorem dX8_steps_17 : decode cX8_steps 17 = .ok (.isub, 1) := by decide +kernel
theorem dX8_steps_18 : decode cX8_steps 18 = .ok (.iastore, 1) := by decide +kernel
theorem dX8_steps_19 : decode cX8_steps 19 = .ok (.iconst 0, 1) := by decide +kernel
theorem dX8_steps_20 : decode cX8_steps 20 = .ok (.istore_n 2, 1) := by decide +kernel
theorem dX8_steps_21 : decode cX8_steps 21 = .ok (.iload_n 2, 1) := by decide +kernel
theorem dX8_steps_22 : decode cX8_steps 22 = .ok (.aload_n 0, 1) := by decide +kernel
theorem dX8_steps_23 : decode cX8_steps 23 = .ok (.getfield 7, 3) := by decide +kernel
theorem dX8_steps_26 : decode cX8_steps 26 = .ok (.bipush 8, 2) := by decide +kernel
theorem dX8_steps_28 : decode cX8_steps 28 = .ok (.iaload, 1) := by decide +kernel
theorem dX8_steps_29 : decode cX8_steps 29 = .ok (.if_icmp .ge 29, 3) := by decide +kernel
theorem dX8_steps_32 : decode cX8_steps 32 = .ok (.aload_n 0, 1) := by decide +kernel
theorem dX8_steps_33 : decode cX8_steps 33 = .ok (.getfield 7, 3) := by decide +kernel
theorem dX8_steps_36 : decode cX8_steps 36 = .ok (.bipush 57, 2) := by decide +kernel
theorem dX8_steps_38 : decode cX8_steps 38 = .ok (.iload_n 2, 1) := by decide +kernel
theorem dX8_steps_39 : decode cX8_steps 39 = .ok (.iadd, 1) := by decide +kernel
theorem dX8_steps_40 : decode cX8_steps 40 = .ok (.aload_n 0, 1) := by decide +kernel
theorem dX8_steps_41 : decode cX8_steps 41 = .ok (.getfield 7, 3) := by decide +kernel
theorem dX8_steps_44 : decode cX8_steps 44 = .ok (.bipush 57, 2) := by decide +kernel
theorem dX8_steps_46 : decode cX8_steps 46 = .ok (.iload_n 2, 1) := by decide +kernel
theorem dX8_steps_47 : decode cX8_steps 47 = .ok (.iadd, 1) := by decide +kernel
theorem dX8_steps_48 : decode cX8_steps 48 = .ok (.iconst 1, 1) := by decide +kernel
theorem dX8_steps_49 : decode cX8_steps 49 = .ok (.iadd, 1) := by decide +kernel
theorem dX8_steps_50 : decode cX8_steps 50 = .ok (.iaload, 1) := by decide +kernel
theorem dX8_steps_51 : decode cX8_steps 51 = .ok (.iastore, 1) := by decide +kernel
theorem dX8_steps_52 : decode cX8_steps 52 = .ok (.iinc 2 1, 3) := by decide +kernel
theorem dX8_steps_55 : decode cX8_steps 55 = .ok (.goto (-34), 3) := by decide +kernel
theorem dX8_steps_58 : decode cX8_steps 58 = .ok (.aload_n 0, 1) := by decide +kernel
theorem dX8_steps_59 : decode cX8_steps 59 = .ok (.sipush 185, 3) := by decide +kernel
theorem dX8_steps_62 : decode cX8_steps 62 = .ok (.iconst 5, 1) := by decide +kernel
theorem dX8_steps_63 : decode cX8_steps 63 = .ok (.iload_n 1, 1) := by decide +kernel
theorem dX8_steps_64 : decode cX8_steps 64 = .ok (.imul, 1) := by decide +kernel
theorem dX8_steps_65 : decode cX8_steps 65 = .ok (.iadd, 1) := by decide +kernel
theorem dX8_steps_66 : decode cX8_steps 66 = .ok (.iconst 1, 1) := by decide +kernel
theorem dX8_steps_67 : decode cX8_steps 67 = .ok (.iadd, 1) := by decide +kernel
theorem dX8_steps_68 : decode cX8_steps 68 = .ok (.invokevirtual 85, 3) := by decide +kernel
theorem dX8_steps_71 : decode cX8_steps 71 = .ok (.aload_n 0, 1) := by decide +kernel
theorem dX8_steps_72 : decode cX8_steps 72 = .ok (.sipush 185, 3) := by decide +kernel
theorem dX8_steps_75 : decode cX8_steps 75 = .ok (.iconst 5, 1) := by decide +kernel
theorem dX8_steps_76 : decode cX8_steps 76 = .ok (.iload_n 1, 1) := by decide +kernel
theorem dX8_steps_77 : decode cX8_steps 77 = .ok (.imul, 1) := by decide +kernel
theorem dX8_steps_78 : decode cX8_steps 78 = .ok (.iadd, 1) := by decide +kernel
theorem dX8_steps_79 : decode cX8_steps 79 = .ok (.iconst 1, 1) := by decide +kernel
theorem dX8_steps_80 : decode cX8_steps 80 = .ok (.iadd, 1) := by decide +kernel
theorem dX8_steps_81 : decode cX8_steps 81 = .ok (.iconst 1, 1) := by decide +kernel
theorem dX8_steps_82 : decode cX8_steps 82 = .ok (.iadd, 1) := by decide +kernel
theorem dX8_steps_83 : decode cX8_steps 83 = .ok (.invokevirtual 85, 3) := by decide +kernel
theorem dX8_steps_86 : decode cX8_steps 86 = .ok (.aload_n 0, 1) := by decide +kernel
theorem dX8_steps_87 : decode cX8_steps 87 = .ok (.invokevirtual 88, 3) := by decide +kernel
theorem dX8_steps_90 : decode cX8_steps 90 = .ok (.return_, 1) := by decide +kernel
set_option maxRecDepth 20000 in
theorem ggX8_stepsToEnd_X8_isMoving : GoodIn wsX8_stepsToEnd wsX8_isMoving := goodIn_r _ [5, 6, 49, 50, 51, 52, 53, 54, 55, 56, 57, 58, 59, 60] (by decide +kernel) (by decide +kernel)
set_option maxRecDepth 20000 in
theorem gX8_stepsToEnd_X8_isMoving : GoodIn wsX8_stepsToEnd (wsV RX8 56 RX8 yX8_isMoving wsX8_isMoving) := goodIn_app (goodIn_of _ (by decide +kernel)) ggX8_stepsToEnd_X8_isMoving
set_option maxRecDepth 20000 in
theorem ggX8_stepsToEnd_X8_steps : GoodIn wsX8_stepsToEnd wsX8_steps := goodIn_r _ [10, 6, 11, 12, 13, 4, 14, 1, 2, 3, 5, 15, 16, 17, 18, 19, 20, 21, 22, 23, 24, 25, 26, 27, 28, 29, 30, 31, 32, 33, 34, 35, 36, 37, 38, 39, 40, 41, 42, 43, 44, 45, 46, 47, 48, 49, 50, 51, 52, 53, 54, 55, 56, 57, 58, 59, 60] (by decide +kernel) (by decide +kernel)
set_option maxRecDepth 20000 in
theorem gX8_stepsToEnd_X8_steps : GoodIn wsX8_stepsToEnd (wsV RX8 91 RX8 yX8_steps wsX8_steps) := goodIn_app (goodIn_of _ (by decide +kernel)) ggX8_stepsToEnd_X8_steps
theorem dX8_stepsToEnd_0 : decode cX8_stepsToEnd 0 = .ok (.iconst 0, 1) := by decide +kernel
theorem dX8_stepsToEnd_1 : decode cX8_stepsToEnd 1 = .ok (.istore_n 1, 1) := by decide +kernel
theorem dX8_stepsToEnd_2 : decode cX8_stepsToEnd 2 = .ok (.aload_n 0, 1) := by decide +kernel
theorem dX8_stepsToEnd_3 : decode cX8_stepsToEnd 3 = .ok (.invokevirtual 56, 3) := by decide +kernel
theorem dX8_stepsToEnd_6 : decode cX8_stepsToEnd 6 = .ok (.ifCond .eq 13, 3) := by decide +kernel
theorem dX8_stepsToEnd_9 : decode cX8_stepsToEnd 9 = .ok (.aload_n 0, 1) := by decide +kernel
theorem dX8_stepsToEnd_10 : decode cX8_stepsToEnd 10 = .ok (.invokevirtual 91, 3) := by decide +kernel
theorem dX8_stepsToEnd_13 : decode cX8_stepsToEnd 13 = .ok (.iinc 1 1, 3) := by decide +kernel
theorem dX8_stepsToEnd_16 : decode cX8_stepsToEnd 16 = .ok (.goto (-14), 3) := by decide +kernel
theorem dX8_stepsToEnd_19 : decode cX8_stepsToEnd 19 = .ok (.iload_n 1, 1) := by decide +kernel
theorem dX8_stepsToEnd_20 : decode cX8_stepsToEnd 20 = .ok (.ireturn, 1) := by decide +kernel
set_option maxRecDepth 20000 in
theorem ggX8_setHeavy_X8_in : GoodIn wsX8_setHeavy wsX8_in := goodIn_r _ [5] (by decide +kernel) (by decide +kernel)
set_option maxRecDepth 20000 in
theorem gX8_setHeavy_X8_in : GoodIn wsX8_setHeavy (va_wsS RX8 40 yX8_in wsX8_in) := goodIn_app (goodIn_of _ (by decide +kernel)) ggX8_setHeavy_X8_in
set_option maxRecDepth 20000 in
theorem ggX8_setHeavy_X8_acts : GoodIn wsX8_setHeavy wsX8_acts := goodIn_r _ [9, 10, 11, 12, 1, 13, 14, 15, 16, 17, 18, 19, 20, 21, 22, 23, 24] (by decide +kernel) (by decide +kernel)
set_option maxRecDepth 20000 in
theorem gX8_setHeavy_X8_acts : GoodIn wsX8_setHeavy (wsV RX8 94 RX8 yX8_acts wsX8_acts) := goodIn_app (goodIn_of _ (by decide +kernel)) ggX8_setHeavy_X8_acts
theorem dX8_setHeavy_0 : decode cX8_setHeavy 0 = .ok (.iload_n 1, 1) := by decide +kernel
theorem dX8_setHeavy_1 : decode cX8_setHeavy 1 = .ok (.iconst 2, 1) := by decide +kernel
theorem dX8_setHeavy_2 : decode cX8_setHeavy 2 = .ok (.bipush 13, 2) := by decide +kernel
theorem dX8_setHeavy_4 : decode cX8_setHeavy 4 = .ok (.invokestatic 40, 3) := by decide +kernel
theorem dX8_setHeavy_7 : decode cX8_setHeavy 7 = .ok (.ifCond .ne 5, 3) := by decide +kernel
theorem dX8_setHeavy_10 : decode cX8_setHeavy 10 = .ok (.iconst (-1), 1) := by decide +kernel
theorem dX8_setHeavy_11 : decode cX8_setHeavy 11 = .ok (.ireturn, 1) := by decide +kernel
theorem dX8_setHeavy_12 : decode cX8_setHeavy 12 = .ok (.aload_n 0, 1) := by decide +kernel
theorem dX8_setHeavy_13 : decode cX8_setHeavy 13 = .ok (.invokevirtual 94, 3) := by decide +kernel
theorem dX8_setHeavy_16 : decode cX8_setHeavy 16 = .ok (.aload_n 0, 1) := by decide +kernel
theorem dX8_setHeavy_17 : decode cX8_setHeavy 17 = .ok (.getfield 7, 3) := by decide +kernel
theorem dX8_setHeavy_20 : decode cX8_setHeavy 20 = .ok (.iconst 1, 1) := by decide +kernel
theorem dX8_setHeavy_21 : decode cX8_setHeavy 21 = .ok (.iaload, 1) := by decide +kernel
theorem dX8_setHeavy_22 : decode cX8_setHeavy 22 = .ok (.istore_n 2, 1) := by decide +kernel
theorem dX8_setHeavy_23 : decode cX8_setHeavy 23 = .ok (.aload_n 0, 1) := by decide +kernel
theorem dX8_setHeavy_24 : decode cX8_setHeavy 24 = .ok (.getfield 7, 3) := by decide +kernel
theorem dX8_setHeavy_27 : decode cX8_setHeavy 27 = .ok (.iconst 1, 1) := by decide +kernel
theorem dX8_setHeavy_28 : decode cX8_setHeavy 28 = .ok (.iload_n 1, 1) := by decide +kernel
theorem dX8_setHeavy_29 : decode cX8_setHeavy 29 = .ok (.iastore, 1) := by decide +kernel
theorem dX8_setHeavy_30 : decode cX8_setHeavy 30 = .ok (.iload_n 2, 1) := by decide +kernel
theorem dX8_setHeavy_31 : decode cX8_setHeavy 31 = .ok (.ireturn, 1) := by decide +kernel
set_option maxRecDepth 20000 in
theorem ggX8_floorPlace_X8_sizeAt : GoodIn wsX8_floorPlace wsX8_sizeAt := goodIn_r _ [5, 6, 7, 8, 9, 4, 10, 11, 12, 13, 14, 15, 16, 17, 18, 19, 20, 21, 22, 23, 24, 25, 26] (by decide +kernel) (by decide +kernel)
set_option maxRecDepth 20000 in
theorem gX8_floorPlace_X8_sizeAt : GoodIn wsX8_floorPlace (wsV RX8 60 RX8 yX8_sizeAt wsX8_sizeAt) := goodIn_app (goodIn_of _ (by decide +kernel)) ggX8_floorPlace_X8_sizeAt
theorem dX8_floorPlace_0 : decode cX8_floorPlace 0 = .ok (.iconst 0, 1) := by decide +kernel
theorem dX8_floorPlace_1 : decode cX8_floorPlace 1 = .ok (.istore_n 2, 1) := by decide +kernel
theorem dX8_floorPlace_2 : decode cX8_floorPlace 2 = .ok (.iconst 0, 1) := by decide +kernel
theorem dX8_floorPlace_3 : decode cX8_floorPlace 3 = .ok (.istore_n 3, 1) := by decide +kernel
theorem dX8_floorPlace_4 : decode cX8_floorPlace 4 = .ok (.iload_n 3, 1) := by decide +kernel
theorem dX8_floorPlace_5 : decode cX8_floorPlace 5 = .ok (.bipush 60, 2) := by decide +kernel
theorem dX8_floorPlace_7 : decode cX8_floorPlace 7 = .ok (.if_icmp .ge 49, 3) := by decide +kernel
theorem dX8_floorPlace_10 : decode cX8_floorPlace 10 = .ok (.iload_n 2, 1) := by decide +kernel
theorem dX8_floorPlace_11 : decode cX8_floorPlace 11 = .ok (.iload_n 1, 1) := by decide +kernel
theorem dX8_floorPlace_12 : decode cX8_floorPlace 12 = .ok (.if_icmp .ge 44, 3) := by decide +kernel
theorem dX8_floorPlace_15 : decode cX8_floorPlace 15 = .ok (.aload_n 0, 1) := by decide +kernel
theorem dX8_floorPlace_16 : decode cX8_floorPlace 16 = .ok (.sipush 128, 3) := by decide +kernel
theorem dX8_floorPlace_19 : decode cX8_floorPlace 19 = .ok (.iload_n 3, 1) := by decide +kernel
theorem dX8_floorPlace_20 : decode cX8_floorPlace 20 = .ok (.iadd, 1) := by decide +kernel
theorem dX8_floorPlace_21 : decode cX8_floorPlace 21 = .ok (.invokevirtual 60, 3) := by decide +kernel
theorem dX8_floorPlace_24 : decode cX8_floorPlace 24 = .ok (.istore 4, 2) := by decide +kernel
theorem dX8_floorPlace_26 : decode cX8_floorPlace 26 = .ok (.iload 4, 2) := by decide +kernel
theorem dX8_floorPlace_28 : decode cX8_floorPlace 28 = .ok (.ifCond .le 7, 3) := by decide +kernel
theorem dX8_floorPlace_31 : decode cX8_floorPlace 31 = .ok (.iconst 0, 1) := by decide +kernel
theorem dX8_floorPlace_32 : decode cX8_floorPlace 32 = .ok (.goto 6, 3) := by decide +kernel
theorem dX8_floorPlace_35 : decode cX8_floorPlace 35 = .ok (.iload_n 2, 1) := by decide +kernel
theorem dX8_floorPlace_36 : decode cX8_floorPlace 36 = .ok (.iconst 1, 1) := by decide +kernel
theorem dX8_floorPlace_37 : decode cX8_floorPlace 37 = .ok (.iadd, 1) := by decide +kernel
theorem dX8_floorPlace_38 : decode cX8_floorPlace 38 = .ok (.istore_n 2, 1) := by decide +kernel
theorem dX8_floorPlace_39 : decode cX8_floorPlace 39 = .ok (.iload_n 3, 1) := by decide +kernel
theorem dX8_floorPlace_40 : decode cX8_floorPlace 40 = .ok (.iload 4, 2) := by decide +kernel
theorem dX8_floorPlace_42 : decode cX8_floorPlace 42 = .ok (.ifCond .le 8, 3) := by decide +kernel
theorem dX8_floorPlace_45 : decode cX8_floorPlace 45 = .ok (.iload 4, 2) := by decide +kernel
theorem dX8_floorPlace_47 : decode cX8_floorPlace 47 = .ok (.goto 4, 3) := by decide +kernel
theorem dX8_floorPlace_50 : decode cX8_floorPlace 50 = .ok (.iconst 1, 1) := by decide +kernel
theorem dX8_floorPlace_51 : decode cX8_floorPlace 51 = .ok (.iadd, 1) := by decide +kernel
theorem dX8_floorPlace_52 : decode cX8_floorPlace 52 = .ok (.istore_n 3, 1) := by decide +kernel
theorem dX8_floorPlace_53 : decode cX8_floorPlace 53 = .ok (.goto (-49), 3) := by decide +kernel
theorem dX8_floorPlace_56 : decode cX8_floorPlace 56 = .ok (.iload_n 2, 1) := by decide +kernel
theorem dX8_floorPlace_57 : decode cX8_floorPlace 57 = .ok (.iload_n 1, 1) := by decide +kernel
theorem dX8_floorPlace_58 : decode cX8_floorPlace 58 = .ok (.if_icmp .ge 8, 3) := by decide +kernel
theorem dX8_floorPlace_61 : decode cX8_floorPlace 61 = .ok (.bipush (-9), 2) := by decide +kernel
theorem dX8_floorPlace_63 : decode cX8_floorPlace 63 = .ok (.goto 6, 3) := by decide +kernel
theorem dX8_floorPlace_66 : decode cX8_floorPlace 66 = .ok (.iload_n 3, 1) := by decide +kernel
theorem dX8_floorPlace_67 : decode cX8_floorPlace 67 = .ok (.iload_n 1, 1) := by decide +kernel
theorem dX8_floorPlace_68 : decode cX8_floorPlace 68 = .ok (.isub, 1) := by decide +kernel
theorem dX8_floorPlace_69 : decode cX8_floorPlace 69 = .ok (.ireturn, 1) := by decide +kernel
set_option maxRecDepth 20000 in
theorem ggX8_make_X8_in : GoodIn wsX8_make wsX8_in := goodIn_r _ [5] (by decide +kernel) (by decide +kernel)
set_option maxRecDepth 20000 in
theorem gX8_make_X8_in : GoodIn wsX8_make (va_wsS RX8 40 yX8_in wsX8_in) := goodIn_app (goodIn_of _ (by decide +kernel)) ggX8_make_X8_in
set_option maxRecDepth 20000 in
theorem ggX8_make_X8_isHook : GoodIn wsX8_make wsX8_isHook := goodIn_r _ [8, 2, 3, 4, 5] (by decide +kernel) (by decide +kernel)
set_option maxRecDepth 20000 in
theorem gX8_make_X8_isHook : GoodIn wsX8_make (va_wsS RX8 97 yX8_isHook wsX8_isHook) := goodIn_app (goodIn_of _ (by decide +kernel)) ggX8_make_X8_isHook
set_option maxRecDepth 20000 in
theorem ggX8_make_X8_floorPlace : GoodIn wsX8_make wsX8_floorPlace := goodIn_r _ [12, 13, 14, 15, 4, 16, 1, 17, 18, 19, 20, 21, 22, 23, 24, 59, 60, 61, 62, 63, 64, 65, 66, 67, 68, 69, 70] (by decide +kernel) (by decide +kernel)
set_option maxRecDepth 20000 in
theorem gX8_make_X8_floorPlace : GoodIn wsX8_make (wsV RX8 100 RX8 yX8_floorPlace wsX8_floorPlace) := goodIn_app (goodIn_of _ (by decide +kernel)) ggX8_make_X8_floorPlace
set_option maxRecDepth 20000 in
theorem ggX8_make_X8_free : GoodIn wsX8_make wsX8_free := goodIn_r _ [28, 1, 59, 60, 61, 62, 63, 64, 65, 66, 67, 68, 69, 70] (by decide +kernel) (by decide +kernel)
set_option maxRecDepth 20000 in
theorem gX8_make_X8_free : GoodIn wsX8_make (wsV RX8 103 RX8 yX8_free wsX8_free) := goodIn_app (goodIn_of _ (by decide +kernel)) ggX8_make_X8_free
set_option maxRecDepth 20000 in
theorem ggX8_make_X8_kept : GoodIn wsX8_make wsX8_kept := goodIn_r _ [32, 33, 34, 35, 4, 36, 1, 37, 38, 39, 40, 17, 18, 19, 20, 21, 22, 23, 24, 13, 14, 15, 16, 59, 60, 61, 62, 63, 64, 65, 66, 67, 68, 69, 70] (by decide +kernel) (by decide +kernel)
set_option maxRecDepth 20000 in
theorem gX8_make_X8_kept : GoodIn wsX8_make (wsV RX8 106 RX8 yX8_kept wsX8_kept) := goodIn_app (goodIn_of _ (by decide +kernel)) ggX8_make_X8_kept
set_option maxRecDepth 20000 in
theorem ggX8_make_X8_acts : GoodIn wsX8_make wsX8_acts := goodIn_r _ [44, 45, 46, 47, 1, 59, 60, 61, 62, 63, 64, 65, 66, 67, 68, 69, 70] (by decide +kernel) (by decide +kernel)
set_option maxRecDepth 20000 in
theorem gX8_make_X8_acts : GoodIn wsX8_make (wsV RX8 94 RX8 yX8_acts wsX8_acts) := goodIn_app (goodIn_of _ (by decide +kernel)) ggX8_make_X8_acts
set_option maxRecDepth 20000 in
theorem ggX8_make_X8_lays : GoodIn wsX8_make wsX8_lays := goodIn_r _ [51, 1, 59, 60, 61, 62, 63, 64, 65, 66, 67, 68, 69, 70] (by decide +kernel) (by decide +kernel)
set_option maxRecDepth 20000 in
theorem gX8_make_X8_lays : GoodIn wsX8_make (wsV RX8 64 RX8 yX8_lays wsX8_lays) := goodIn_app (goodIn_of _ (by decide +kernel)) ggX8_make_X8_lays
set_option maxRecDepth 20000 in
theorem ggX8_make_X8_laysInHalf : GoodIn wsX8_make wsX8_laysInHalf := goodIn_r _ [55, 1, 48, 49, 50, 4, 51, 59, 60, 61, 62, 63, 64, 65, 66, 67, 68, 69, 70] (by decide +kernel) (by decide +kernel)
set_option maxRecDepth 20000 in
theorem gX8_make_X8_laysInHalf : GoodIn wsX8_make (wsV RX8 68 RX8 yX8_laysInHalf wsX8_laysInHalf) := goodIn_app (goodIn_of _ (by decide +kernel)) ggX8_make_X8_laysInHalf
set_option maxRecDepth 20000 in
theorem ggX8_make_X8_address : GoodIn wsX8_make wsX8_address := goodIn_r _ [58] (by decide +kernel) (by decide +kernel)
set_option maxRecDepth 20000 in
theorem gX8_make_X8_address : GoodIn wsX8_make (va_wsS RX8 76 yX8_address wsX8_address) := goodIn_app (goodIn_of _ (by decide +kernel)) ggX8_make_X8_address
theorem dX8_make_0 : decode cX8_make 0 = .ok (.iload_n 1, 1) := by decide +kernel
theorem dX8_make_1 : decode cX8_make 1 = .ok (.iconst 1, 1) := by decide +kernel
theorem dX8_make_2 : decode cX8_make 2 = .ok (.bipush 12, 2) := by decide +kernel
theorem dX8_make_4 : decode cX8_make 4 = .ok (.invokestatic 40, 3) := by decide +kernel
theorem dX8_make_7 : decode cX8_make 7 = .ok (.ifCond .eq 10, 3) := by decide +kernel
theorem dX8_make_10 : decode cX8_make 10 = .ok (.iload_n 2, 1) := by decide +kernel
theorem dX8_make_11 : decode cX8_make 11 = .ok (.invokestatic 97, 3) := by decide +kernel
theorem dX8_make_14 : decode cX8_make 14 = .ok (.ifCond .ne 5, 3) := by decide +kernel
theorem dX8_make_17 : decode cX8_make 17 = .ok (.iconst (-1), 1) := by decide +kernel
theorem dX8_make_18 : decode cX8_make 18 = .ok (.ireturn, 1) := by decide +kernel
theorem dX8_make_19 : decode cX8_make 19 = .ok (.iload_n 1, 1) := by decide +kernel
theorem dX8_make_20 : decode cX8_make 20 = .ok (.aload_n 0, 1) := by decide +kernel
theorem dX8_make_21 : decode cX8_make 21 = .ok (.getfield 7, 3) := by decide +kernel
theorem dX8_make_24 : decode cX8_make 24 = .ok (.iconst 1, 1) := by decide +kernel
theorem dX8_make_25 : decode cX8_make 25 = .ok (.iaload, 1) := by decide +kernel
theorem dX8_make_26 : decode cX8_make 26 = .ok (.if_icmp .lt 7, 3) := by decide +kernel
theorem dX8_make_29 : decode cX8_make 29 = .ok (.iconst 1, 1) := by decide +kernel
theorem dX8_make_30 : decode cX8_make 30 = .ok (.goto 4, 3) := by decide +kernel
theorem dX8_make_33 : decode cX8_make 33 = .ok (.iconst 0, 1) := by decide +kernel
theorem dX8_make_34 : decode cX8_make 34 = .ok (.istore_n 3, 1) := by decide +kernel
theorem dX8_make_35 : decode cX8_make 35 = .ok (.iload_n 3, 1) := by decide +kernel
theorem dX8_make_36 : decode cX8_make 36 = .ok (.ifCond .eq 11, 3) := by decide +kernel
theorem dX8_make_39 : decode cX8_make 39 = .ok (.aload_n 0, 1) := by decide +kernel
theorem dX8_make_40 : decode cX8_make 40 = .ok (.iload_n 1, 1) := by decide +kernel
theorem dX8_make_41 : decode cX8_make 41 = .ok (.invokevirtual 100, 3) := by decide +kernel
theorem dX8_make_44 : decode cX8_make 44 = .ok (.goto 5, 3) := by decide +kernel
theorem dX8_make_47 : decode cX8_make 47 = .ok (.bipush (-9), 2) := by decide +kernel
theorem dX8_make_49 : decode cX8_make 49 = .ok (.istore 4, 2) := by decide +kernel
theorem dX8_make_51 : decode cX8_make 51 = .ok (.iload_n 3, 1) := by decide +kernel
theorem dX8_make_52 : decode cX8_make 52 = .ok (.ifCond .eq 18, 3) := by decide +kernel
theorem dX8_make_55 : decode cX8_make 55 = .ok (.iload 4, 2) := by decide +kernel
theorem dX8_make_57 : decode cX8_make 57 = .ok (.bipush (-9), 2) := by decide +kernel
theorem dX8_make_59 : decode cX8_make 59 = .ok (.if_icmp .eq 7, 3) := by decide +kernel
theorem dX8_make_62 : decode cX8_make 62 = .ok (.iconst 1, 1) := by decide +kernel
theorem dX8_make_63 : decode cX8_make 63 = .ok (.goto 31, 3) := by decide +kernel
theorem dX8_make_66 : decode cX8_make 66 = .ok (.iconst 0, 1) := by decide +kernel
theorem dX8_make_67 : decode cX8_make 67 = .ok (.goto 27, 3) := by decide +kernel
theorem dX8_make_70 : decode cX8_make 70 = .ok (.iload_n 1, 1) := by decide +kernel
theorem dX8_make_71 : decode cX8_make 71 = .ok (.aload_n 0, 1) := by decide +kernel
theorem dX8_make_72 : decode cX8_make 72 = .ok (.aload_n 0, 1) := by decide +kernel
theorem dX8_make_73 : decode cX8_make 73 = .ok (.getfield 7, 3) := by decide +kernel
theorem dX8_make_76 : decode cX8_make 76 = .ok (.iconst 3, 1) := by decide +kernel
theorem dX8_make_77 : decode cX8_make 77 = .ok (.iaload, 1) := by decide +kernel
theorem dX8_make_78 : decode cX8_make 78 = .ok (.invokevirtual 103, 3) := by decide +kernel
theorem dX8_make_81 : decode cX8_make 81 = .ok (.aload_n 0, 1) := by decide +kernel
theorem dX8_make_82 : decode cX8_make 82 = .ok (.invokevirtual 106, 3) := by decide +kernel
theorem dX8_make_85 : decode cX8_make 85 = .ok (.isub, 1) := by decide +kernel
theorem dX8_make_86 : decode cX8_make 86 = .ok (.if_icmp .gt 7, 3) := by decide +kernel
theorem dX8_make_89 : decode cX8_make 89 = .ok (.iconst 1, 1) := by decide +kernel
theorem dX8_make_90 : decode cX8_make 90 = .ok (.goto 4, 3) := by decide +kernel
theorem dX8_make_93 : decode cX8_make 93 = .ok (.iconst 0, 1) := by decide +kernel
theorem dX8_make_94 : decode cX8_make 94 = .ok (.istore 5, 2) := by decide +kernel
theorem dX8_make_96 : decode cX8_make 96 = .ok (.aload_n 0, 1) := by decide +kernel
theorem dX8_make_97 : decode cX8_make 97 = .ok (.getfield 7, 3) := by decide +kernel
theorem dX8_make_100 : decode cX8_make 100 = .ok (.iconst 0, 1) := by decide +kernel
theorem dX8_make_101 : decode cX8_make 101 = .ok (.iaload, 1) := by decide +kernel
theorem dX8_make_102 : decode cX8_make 102 = .ok (.bipush 40, 2) := by decide +kernel
theorem dX8_make_104 : decode cX8_make 104 = .ok (.if_icmp .eq 8, 3) := by decide +kernel
theorem dX8_make_107 : decode cX8_make 107 = .ok (.iload 5, 2) := by decide +kernel
theorem dX8_make_109 : decode cX8_make 109 = .ok (.ifCond .ne 6, 3) := by decide +kernel
theorem dX8_make_112 : decode cX8_make 112 = .ok (.bipush (-3), 2) := by decide +kernel
theorem dX8_make_114 : decode cX8_make 114 = .ok (.ireturn, 1) := by decide +kernel
theorem dX8_make_115 : decode cX8_make 115 = .ok (.aload_n 0, 1) := by decide +kernel
theorem dX8_make_116 : decode cX8_make 116 = .ok (.invokevirtual 94, 3) := by decide +kernel
theorem dX8_make_119 : decode cX8_make 119 = .ok (.aload_n 0, 1) := by decide +kernel
theorem dX8_make_120 : decode cX8_make 120 = .ok (.getfield 7, 3) := by decide +kernel
theorem dX8_make_123 : decode cX8_make 123 = .ok (.iconst 0, 1) := by decide +kernel
theorem dX8_make_124 : decode cX8_make 124 = .ok (.iaload, 1) := by decide +kernel
theorem dX8_make_125 : decode cX8_make 125 = .ok (.istore 6, 2) := by decide +kernel
theorem dX8_make_127 : decode cX8_make 127 = .ok (.aload_n 0, 1) := by decide +kernel
theorem dX8_make_128 : decode cX8_make 128 = .ok (.getfield 7, 3) := by decide +kernel
theorem dX8_make_131 : decode cX8_make 131 = .ok (.bipush 17, 2) := by decide +kernel
theorem dX8_make_133 : decode cX8_make 133 = .ok (.iload 6, 2) := by decide +kernel
theorem dX8_make_135 : decode cX8_make 135 = .ok (.iadd, 1) := by decide +kernel
theorem dX8_make_136 : decode cX8_make 136 = .ok (.iload_n 1, 1) := by decide +kernel
theorem dX8_make_137 : decode cX8_make 137 = .ok (.iastore, 1) := by decide +kernel
theorem dX8_make_138 : decode cX8_make 138 = .ok (.aload_n 0, 1) := by decide +kernel
theorem dX8_make_139 : decode cX8_make 139 = .ok (.getfield 7, 3) := by decide +kernel
theorem dX8_make_142 : decode cX8_make 142 = .ok (.iconst 0, 1) := by decide +kernel
theorem dX8_make_143 : decode cX8_make 143 = .ok (.dup2, 1) := by decide +kernel
theorem dX8_make_144 : decode cX8_make 144 = .ok (.iaload, 1) := by decide +kernel
