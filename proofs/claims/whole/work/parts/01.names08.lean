theorem dX8_mend_151 : decode cX8_mend 151 = .ok (.getfield 7, 3) := by decide +kernel
theorem dX8_mend_154 : decode cX8_mend 154 = .ok (.sipush 185, 3) := by decide +kernel
theorem dX8_mend_157 : decode cX8_mend 157 = .ok (.iconst 5, 1) := by decide +kernel
theorem dX8_mend_158 : decode cX8_mend 158 = .ok (.iload 4, 2) := by decide +kernel
theorem dX8_mend_160 : decode cX8_mend 160 = .ok (.imul, 1) := by decide +kernel
theorem dX8_mend_161 : decode cX8_mend 161 = .ok (.iadd, 1) := by decide +kernel
theorem dX8_mend_162 : decode cX8_mend 162 = .ok (.iconst 0, 1) := by decide +kernel
theorem dX8_mend_163 : decode cX8_mend 163 = .ok (.iadd, 1) := by decide +kernel
theorem dX8_mend_164 : decode cX8_mend 164 = .ok (.aload_n 0, 1) := by decide +kernel
theorem dX8_mend_165 : decode cX8_mend 165 = .ok (.iload 4, 2) := by decide +kernel
theorem dX8_mend_167 : decode cX8_mend 167 = .ok (.iconst 0, 1) := by decide +kernel
theorem dX8_mend_168 : decode cX8_mend 168 = .ok (.invokevirtual 44, 3) := by decide +kernel
theorem dX8_mend_171 : decode cX8_mend 171 = .ok (.iload_n 1, 1) := by decide +kernel
theorem dX8_mend_172 : decode cX8_mend 172 = .ok (.iconst 1, 1) := by decide +kernel
theorem dX8_mend_173 : decode cX8_mend 173 = .ok (.iadd, 1) := by decide +kernel
theorem dX8_mend_174 : decode cX8_mend 174 = .ok (.if_icmp .ne 7, 3) := by decide +kernel
theorem dX8_mend_177 : decode cX8_mend 177 = .ok (.iconst 0, 1) := by decide +kernel
theorem dX8_mend_178 : decode cX8_mend 178 = .ok (.goto 10, 3) := by decide +kernel
theorem dX8_mend_181 : decode cX8_mend 181 = .ok (.aload_n 0, 1) := by decide +kernel
theorem dX8_mend_182 : decode cX8_mend 182 = .ok (.iload 4, 2) := by decide +kernel
theorem dX8_mend_184 : decode cX8_mend 184 = .ok (.iconst 0, 1) := by decide +kernel
theorem dX8_mend_185 : decode cX8_mend 185 = .ok (.invokevirtual 44, 3) := by decide +kernel
theorem dX8_mend_188 : decode cX8_mend 188 = .ok (.iastore, 1) := by decide +kernel
theorem dX8_mend_189 : decode cX8_mend 189 = .ok (.iinc 4 1, 3) := by decide +kernel
theorem dX8_mend_192 : decode cX8_mend 192 = .ok (.goto (-50), 3) := by decide +kernel
theorem dX8_mend_195 : decode cX8_mend 195 = .ok (.iload_n 2, 1) := by decide +kernel
theorem dX8_mend_196 : decode cX8_mend 196 = .ok (.iconst 1, 1) := by decide +kernel
theorem dX8_mend_197 : decode cX8_mend 197 = .ok (.isub, 1) := by decide +kernel
theorem dX8_mend_198 : decode cX8_mend 198 = .ok (.ireturn, 1) := by decide +kernel
theorem dX8_undo_0 : decode cX8_undo 0 = .ok (.aload_n 0, 1) := by decide +kernel
theorem dX8_undo_1 : decode cX8_undo 1 = .ok (.getfield 36, 3) := by decide +kernel
theorem dX8_undo_4 : decode cX8_undo 4 = .ok (.ifCond .ne 6, 3) := by decide +kernel
theorem dX8_undo_7 : decode cX8_undo 7 = .ok (.bipush (-2), 2) := by decide +kernel
theorem dX8_undo_9 : decode cX8_undo 9 = .ok (.ireturn, 1) := by decide +kernel
theorem dX8_undo_10 : decode cX8_undo 10 = .ok (.aload_n 0, 1) := by decide +kernel
theorem dX8_undo_11 : decode cX8_undo 11 = .ok (.dup, 1) := by decide +kernel
theorem dX8_undo_12 : decode cX8_undo 12 = .ok (.getfield 36, 3) := by decide +kernel
theorem dX8_undo_15 : decode cX8_undo 15 = .ok (.iconst 1, 1) := by decide +kernel
theorem dX8_undo_16 : decode cX8_undo 16 = .ok (.isub, 1) := by decide +kernel
theorem dX8_undo_17 : decode cX8_undo 17 = .ok (.putfield 36, 3) := by decide +kernel
theorem dX8_undo_20 : decode cX8_undo 20 = .ok (.iconst 0, 1) := by decide +kernel
theorem dX8_undo_21 : decode cX8_undo 21 = .ok (.istore_n 1, 1) := by decide +kernel
theorem dX8_undo_22 : decode cX8_undo 22 = .ok (.iload_n 1, 1) := by decide +kernel
theorem dX8_undo_23 : decode cX8_undo 23 = .ok (.sipush 1125, 3) := by decide +kernel
theorem dX8_undo_26 : decode cX8_undo 26 = .ok (.if_icmp .ge 30, 3) := by decide +kernel
theorem dX8_undo_29 : decode cX8_undo 29 = .ok (.aload_n 0, 1) := by decide +kernel
theorem dX8_undo_30 : decode cX8_undo 30 = .ok (.getfield 7, 3) := by decide +kernel
theorem dX8_undo_33 : decode cX8_undo 33 = .ok (.iload_n 1, 1) := by decide +kernel
theorem dX8_undo_34 : decode cX8_undo 34 = .ok (.aload_n 0, 1) := by decide +kernel
theorem dX8_undo_35 : decode cX8_undo 35 = .ok (.getfield 13, 3) := by decide +kernel
theorem dX8_undo_38 : decode cX8_undo 38 = .ok (.sipush 1125, 3) := by decide +kernel
theorem dX8_undo_41 : decode cX8_undo 41 = .ok (.aload_n 0, 1) := by decide +kernel
theorem dX8_undo_42 : decode cX8_undo 42 = .ok (.getfield 36, 3) := by decide +kernel
theorem dX8_undo_45 : decode cX8_undo 45 = .ok (.imul, 1) := by decide +kernel
theorem dX8_undo_46 : decode cX8_undo 46 = .ok (.iload_n 1, 1) := by decide +kernel
theorem dX8_undo_47 : decode cX8_undo 47 = .ok (.iadd, 1) := by decide +kernel
theorem dX8_undo_48 : decode cX8_undo 48 = .ok (.iaload, 1) := by decide +kernel
theorem dX8_undo_49 : decode cX8_undo 49 = .ok (.iastore, 1) := by decide +kernel
theorem dX8_undo_50 : decode cX8_undo 50 = .ok (.iinc 1 1, 3) := by decide +kernel
theorem dX8_undo_53 : decode cX8_undo 53 = .ok (.goto (-31), 3) := by decide +kernel
theorem dX8_undo_56 : decode cX8_undo 56 = .ok (.aload_n 0, 1) := by decide +kernel
theorem dX8_undo_57 : decode cX8_undo 57 = .ok (.getfield 36, 3) := by decide +kernel
theorem dX8_undo_60 : decode cX8_undo 60 = .ok (.ireturn, 1) := by decide +kernel
set_option maxRecDepth 20000 in
theorem ggX8_append_X8_in : GoodIn wsX8_append wsX8_in := goodIn_r _ [6] (by decide +kernel) (by decide +kernel)
set_option maxRecDepth 20000 in
theorem gX8_append_X8_in : GoodIn wsX8_append (va_wsS RX8 40 yX8_in wsX8_in) := goodIn_app (goodIn_of _ (by decide +kernel)) ggX8_append_X8_in
theorem dX8_append_0 : decode cX8_append 0 = .ok (.iload_n 1, 1) := by decide +kernel
theorem dX8_append_1 : decode cX8_append 1 = .ok (.iconst 1, 1) := by decide +kernel
theorem dX8_append_2 : decode cX8_append 2 = .ok (.sipush 255, 3) := by decide +kernel
theorem dX8_append_5 : decode cX8_append 5 = .ok (.invokestatic 40, 3) := by decide +kernel
theorem dX8_append_8 : decode cX8_append 8 = .ok (.ifCond .ne 5, 3) := by decide +kernel
theorem dX8_append_11 : decode cX8_append 11 = .ok (.iconst (-1), 1) := by decide +kernel
theorem dX8_append_12 : decode cX8_append 12 = .ok (.ireturn, 1) := by decide +kernel
theorem dX8_append_13 : decode cX8_append 13 = .ok (.aload_n 0, 1) := by decide +kernel
theorem dX8_append_14 : decode cX8_append 14 = .ok (.getfield 134, 3) := by decide +kernel
theorem dX8_append_17 : decode cX8_append 17 = .ok (.bipush 80, 2) := by decide +kernel
theorem dX8_append_19 : decode cX8_append 19 = .ok (.if_icmp .ne 6, 3) := by decide +kernel
theorem dX8_append_22 : decode cX8_append 22 = .ok (.bipush (-3), 2) := by decide +kernel
theorem dX8_append_24 : decode cX8_append 24 = .ok (.ireturn, 1) := by decide +kernel
theorem dX8_append_25 : decode cX8_append 25 = .ok (.aload_n 0, 1) := by decide +kernel
theorem dX8_append_26 : decode cX8_append 26 = .ok (.getfield 19, 3) := by decide +kernel
theorem dX8_append_29 : decode cX8_append 29 = .ok (.aload_n 0, 1) := by decide +kernel
theorem dX8_append_30 : decode cX8_append 30 = .ok (.getfield 134, 3) := by decide +kernel
theorem dX8_append_33 : decode cX8_append 33 = .ok (.iload_n 1, 1) := by decide +kernel
theorem dX8_append_34 : decode cX8_append 34 = .ok (.iastore, 1) := by decide +kernel
theorem dX8_append_35 : decode cX8_append 35 = .ok (.aload_n 0, 1) := by decide +kernel
theorem dX8_append_36 : decode cX8_append 36 = .ok (.dup, 1) := by decide +kernel
theorem dX8_append_37 : decode cX8_append 37 = .ok (.getfield 134, 3) := by decide +kernel
theorem dX8_append_40 : decode cX8_append 40 = .ok (.iconst 1, 1) := by decide +kernel
theorem dX8_append_41 : decode cX8_append 41 = .ok (.iadd, 1) := by decide +kernel
theorem dX8_append_42 : decode cX8_append 42 = .ok (.putfield 134, 3) := by decide +kernel
theorem dX8_append_45 : decode cX8_append 45 = .ok (.aload_n 0, 1) := by decide +kernel
theorem dX8_append_46 : decode cX8_append 46 = .ok (.getfield 134, 3) := by decide +kernel
theorem dX8_append_49 : decode cX8_append 49 = .ok (.ireturn, 1) := by decide +kernel
theorem dX8_clearText_0 : decode cX8_clearText 0 = .ok (.aload_n 0, 1) := by decide +kernel
theorem dX8_clearText_1 : decode cX8_clearText 1 = .ok (.getfield 134, 3) := by decide +kernel
theorem dX8_clearText_4 : decode cX8_clearText 4 = .ok (.istore_n 1, 1) := by decide +kernel
theorem dX8_clearText_5 : decode cX8_clearText 5 = .ok (.aload_n 0, 1) := by decide +kernel
theorem dX8_clearText_6 : decode cX8_clearText 6 = .ok (.iconst 0, 1) := by decide +kernel
theorem dX8_clearText_7 : decode cX8_clearText 7 = .ok (.putfield 134, 3) := by decide +kernel
theorem dX8_clearText_10 : decode cX8_clearText 10 = .ok (.iload_n 1, 1) := by decide +kernel
theorem dX8_clearText_11 : decode cX8_clearText 11 = .ok (.ireturn, 1) := by decide +kernel
set_option maxRecDepth 20000 in
theorem ggX8_isAt_X8_in : GoodIn wsX8_isAt wsX8_in := goodIn_r _ [7] (by decide +kernel) (by decide +kernel)
set_option maxRecDepth 20000 in
theorem gX8_isAt_X8_in : GoodIn wsX8_isAt (va_wsS RX8 40 yX8_in wsX8_in) := goodIn_app (goodIn_of _ (by decide +kernel)) ggX8_isAt_X8_in
theorem dX8_isAt_0 : decode cX8_isAt 0 = .ok (.aload_n 0, 1) := by decide +kernel
theorem dX8_isAt_1 : decode cX8_isAt 1 = .ok (.getfield 137, 3) := by decide +kernel
theorem dX8_isAt_4 : decode cX8_isAt 4 = .ok (.aload_n 0, 1) := by decide +kernel
theorem dX8_isAt_5 : decode cX8_isAt 5 = .ok (.getfield 134, 3) := by decide +kernel
theorem dX8_isAt_8 : decode cX8_isAt 8 = .ok (.if_icmp .ge 24, 3) := by decide +kernel
theorem dX8_isAt_11 : decode cX8_isAt 11 = .ok (.aload_n 0, 1) := by decide +kernel
theorem dX8_isAt_12 : decode cX8_isAt 12 = .ok (.getfield 19, 3) := by decide +kernel
theorem dX8_isAt_15 : decode cX8_isAt 15 = .ok (.aload_n 0, 1) := by decide +kernel
theorem dX8_isAt_16 : decode cX8_isAt 16 = .ok (.getfield 137, 3) := by decide +kernel
theorem dX8_isAt_19 : decode cX8_isAt 19 = .ok (.iaload, 1) := by decide +kernel
theorem dX8_isAt_20 : decode cX8_isAt 20 = .ok (.iload_n 1, 1) := by decide +kernel
theorem dX8_isAt_21 : decode cX8_isAt 21 = .ok (.iload_n 2, 1) := by decide +kernel
theorem dX8_isAt_22 : decode cX8_isAt 22 = .ok (.invokestatic 40, 3) := by decide +kernel
theorem dX8_isAt_25 : decode cX8_isAt 25 = .ok (.ifCond .eq 7, 3) := by decide +kernel
theorem dX8_isAt_28 : decode cX8_isAt 28 = .ok (.iconst 1, 1) := by decide +kernel
theorem dX8_isAt_29 : decode cX8_isAt 29 = .ok (.goto 4, 3) := by decide +kernel
theorem dX8_isAt_32 : decode cX8_isAt 32 = .ok (.iconst 0, 1) := by decide +kernel
theorem dX8_isAt_33 : decode cX8_isAt 33 = .ok (.ireturn, 1) := by decide +kernel
set_option maxRecDepth 20000 in
theorem ggX8_number_X8_isAt : GoodIn wsX8_number wsX8_isAt := goodIn_r _ [8, 1, 9, 3, 10, 11, 7, 12, 13, 14, 15, 16, 17, 18, 19, 20, 21, 22, 23, 24] (by decide +kernel) (by decide +kernel)
set_option maxRecDepth 20000 in
theorem gX8_number_X8_isAt : GoodIn wsX8_number (wsV RX8 140 RX8 yX8_isAt wsX8_isAt) := goodIn_app (goodIn_of _ (by decide +kernel)) ggX8_number_X8_isAt
theorem dX8_number_0 : decode cX8_number 0 = .ok (.aload_n 0, 1) := by decide +kernel
theorem dX8_number_1 : decode cX8_number 1 = .ok (.getfield 137, 3) := by decide +kernel
theorem dX8_number_4 : decode cX8_number 4 = .ok (.istore_n 3, 1) := by decide +kernel
theorem dX8_number_5 : decode cX8_number 5 = .ok (.aload_n 0, 1) := by decide +kernel
theorem dX8_number_6 : decode cX8_number 6 = .ok (.getfield 22, 3) := by decide +kernel
theorem dX8_number_9 : decode cX8_number 9 = .ok (.iload_n 1, 1) := by decide +kernel
theorem dX8_number_10 : decode cX8_number 10 = .ok (.iconst 0, 1) := by decide +kernel
theorem dX8_number_11 : decode cX8_number 11 = .ok (.iastore, 1) := by decide +kernel
theorem dX8_number_12 : decode cX8_number 12 = .ok (.aload_n 0, 1) := by decide +kernel
theorem dX8_number_13 : decode cX8_number 13 = .ok (.bipush 48, 2) := by decide +kernel
theorem dX8_number_15 : decode cX8_number 15 = .ok (.bipush 57, 2) := by decide +kernel
theorem dX8_number_17 : decode cX8_number 17 = .ok (.invokevirtual 140, 3) := by decide +kernel
theorem dX8_number_20 : decode cX8_number 20 = .ok (.ifCond .eq 71, 3) := by decide +kernel
theorem dX8_number_23 : decode cX8_number 23 = .ok (.aload_n 0, 1) := by decide +kernel
theorem dX8_number_24 : decode cX8_number 24 = .ok (.getfield 137, 3) := by decide +kernel
theorem dX8_number_27 : decode cX8_number 27 = .ok (.iload_n 3, 1) := by decide +kernel
theorem dX8_number_28 : decode cX8_number 28 = .ok (.isub, 1) := by decide +kernel
theorem dX8_number_29 : decode cX8_number 29 = .ok (.iconst 2, 1) := by decide +kernel
theorem dX8_number_30 : decode cX8_number 30 = .ok (.if_icmp .ge 61, 3) := by decide +kernel
theorem dX8_number_33 : decode cX8_number 33 = .ok (.aload_n 0, 1) := by decide +kernel
theorem dX8_number_34 : decode cX8_number 34 = .ok (.getfield 137, 3) := by decide +kernel
theorem dX8_number_37 : decode cX8_number 37 = .ok (.iload_n 3, 1) := by decide +kernel
theorem dX8_number_38 : decode cX8_number 38 = .ok (.if_icmp .eq 12, 3) := by decide +kernel
theorem dX8_number_41 : decode cX8_number 41 = .ok (.aload_n 0, 1) := by decide +kernel
theorem dX8_number_42 : decode cX8_number 42 = .ok (.getfield 22, 3) := by decide +kernel
theorem dX8_number_45 : decode cX8_number 45 = .ok (.iload_n 1, 1) := by decide +kernel
theorem dX8_number_46 : decode cX8_number 46 = .ok (.iaload, 1) := by decide +kernel
theorem dX8_number_47 : decode cX8_number 47 = .ok (.ifCond .le 44, 3) := by decide +kernel
theorem dX8_number_50 : decode cX8_number 50 = .ok (.aload_n 0, 1) := by decide +kernel
theorem dX8_number_51 : decode cX8_number 51 = .ok (.getfield 22, 3) := by decide +kernel
theorem dX8_number_54 : decode cX8_number 54 = .ok (.iload_n 1, 1) := by decide +kernel
theorem dX8_number_55 : decode cX8_number 55 = .ok (.bipush 10, 2) := by decide +kernel
theorem dX8_number_57 : decode cX8_number 57 = .ok (.aload_n 0, 1) := by decide +kernel
theorem dX8_number_58 : decode cX8_number 58 = .ok (.getfield 22, 3) := by decide +kernel
theorem dX8_number_61 : decode cX8_number 61 = .ok (.iload_n 1, 1) := by decide +kernel
theorem dX8_number_62 : decode cX8_number 62 = .ok (.iaload, 1) := by decide +kernel
theorem dX8_number_63 : decode cX8_number 63 = .ok (.imul, 1) := by decide +kernel
theorem dX8_number_64 : decode cX8_number 64 = .ok (.aload_n 0, 1) := by decide +kernel
theorem dX8_number_65 : decode cX8_number 65 = .ok (.getfield 19, 3) := by decide +kernel
theorem dX8_number_68 : decode cX8_number 68 = .ok (.aload_n 0, 1) := by decide +kernel
theorem dX8_number_69 : decode cX8_number 69 = .ok (.getfield 137, 3) := by decide +kernel
theorem dX8_number_72 : decode cX8_number 72 = .ok (.iaload, 1) := by decide +kernel
theorem dX8_number_73 : decode cX8_number 73 = .ok (.iadd, 1) := by decide +kernel
theorem dX8_number_74 : decode cX8_number 74 = .ok (.bipush 48, 2) := by decide +kernel
theorem dX8_number_76 : decode cX8_number 76 = .ok (.isub, 1) := by decide +kernel
theorem dX8_number_77 : decode cX8_number 77 = .ok (.iastore, 1) := by decide +kernel
theorem dX8_number_78 : decode cX8_number 78 = .ok (.aload_n 0, 1) := by decide +kernel
theorem dX8_number_79 : decode cX8_number 79 = .ok (.dup, 1) := by decide +kernel
theorem dX8_number_80 : decode cX8_number 80 = .ok (.getfield 137, 3) := by decide +kernel
theorem dX8_number_83 : decode cX8_number 83 = .ok (.iconst 1, 1) := by decide +kernel
theorem dX8_number_84 : decode cX8_number 84 = .ok (.iadd, 1) := by decide +kernel
theorem dX8_number_85 : decode cX8_number 85 = .ok (.putfield 137, 3) := by decide +kernel
theorem dX8_number_88 : decode cX8_number 88 = .ok (.goto (-76), 3) := by decide +kernel
theorem dX8_number_91 : decode cX8_number 91 = .ok (.aload_n 0, 1) := by decide +kernel
theorem dX8_number_92 : decode cX8_number 92 = .ok (.getfield 137, 3) := by decide +kernel
theorem dX8_number_95 : decode cX8_number 95 = .ok (.iload_n 3, 1) := by decide +kernel
theorem dX8_number_96 : decode cX8_number 96 = .ok (.if_icmp .eq 12, 3) := by decide +kernel
theorem dX8_number_99 : decode cX8_number 99 = .ok (.aload_n 0, 1) := by decide +kernel
theorem dX8_number_100 : decode cX8_number 100 = .ok (.iload_n 2, 1) := by decide +kernel
theorem dX8_number_101 : decode cX8_number 101 = .ok (.iload_n 2, 1) := by decide +kernel
theorem dX8_number_102 : decode cX8_number 102 = .ok (.invokevirtual 140, 3) := by decide +kernel
theorem dX8_number_105 : decode cX8_number 105 = .ok (.ifCond .ne 5, 3) := by decide +kernel
theorem dX8_number_108 : decode cX8_number 108 = .ok (.iconst 0, 1) := by decide +kernel
theorem dX8_number_109 : decode cX8_number 109 = .ok (.ireturn, 1) := by decide +kernel
theorem dX8_number_110 : decode cX8_number 110 = .ok (.aload_n 0, 1) := by decide +kernel
theorem dX8_number_111 : decode cX8_number 111 = .ok (.dup, 1) := by decide +kernel
theorem dX8_number_112 : decode cX8_number 112 = .ok (.getfield 137, 3) := by decide +kernel
theorem dX8_number_115 : decode cX8_number 115 = .ok (.iconst 1, 1) := by decide +kernel
theorem dX8_number_116 : decode cX8_number 116 = .ok (.iadd, 1) := by decide +kernel
theorem dX8_number_117 : decode cX8_number 117 = .ok (.putfield 137, 3) := by decide +kernel
theorem dX8_number_120 : decode cX8_number 120 = .ok (.iconst 1, 1) := by decide +kernel
theorem dX8_number_121 : decode cX8_number 121 = .ok (.ireturn, 1) := by decide +kernel
theorem dX8_numbersOf_0 : decode cX8_numbersOf 0 = .ok (.iload_n 0, 1) := by decide +kernel
theorem dX8_numbersOf_1 : decode cX8_numbersOf 1 = .ok (.tableswitch 95 98 115 #[93, 95, 91, 95, 89, 95, 95, 95, 95, 95, 89, 87, 95, 95, 95, 95, 95, 91], 87) := by decide +kernel
theorem dX8_numbersOf_88 : decode cX8_numbersOf 88 = .ok (.iconst 2, 1) := by decide +kernel
theorem dX8_numbersOf_89 : decode cX8_numbersOf 89 = .ok (.ireturn, 1) := by decide +kernel
theorem dX8_numbersOf_90 : decode cX8_numbersOf 90 = .ok (.iconst 3, 1) := by decide +kernel
theorem dX8_numbersOf_91 : decode cX8_numbersOf 91 = .ok (.ireturn, 1) := by decide +kernel
theorem dX8_numbersOf_92 : decode cX8_numbersOf 92 = .ok (.iconst 1, 1) := by decide +kernel
theorem dX8_numbersOf_93 : decode cX8_numbersOf 93 = .ok (.ireturn, 1) := by decide +kernel
theorem dX8_numbersOf_94 : decode cX8_numbersOf 94 = .ok (.iconst 0, 1) := by decide +kernel
theorem dX8_numbersOf_95 : decode cX8_numbersOf 95 = .ok (.ireturn, 1) := by decide +kernel
theorem dX8_numbersOf_96 : decode cX8_numbersOf 96 = .ok (.bipush (-9), 2) := by decide +kernel
theorem dX8_numbersOf_98 : decode cX8_numbersOf 98 = .ok (.ireturn, 1) := by decide +kernel
set_option maxRecDepth 20000 in
theorem ggX8_does_X8_make : GoodIn wsX8_does wsX8_make := goodIn_r _ [6, 7, 8, 9, 5, 10, 11, 12, 13, 14, 15, 16, 17, 18, 19, 20, 21, 22, 23, 24, 25, 26, 27, 28, 29, 30, 31, 32, 33, 34, 35, 36, 37, 38, 39, 40, 41, 42, 43, 44, 45, 46, 47, 48, 49, 50, 51, 52, 53, 54, 55, 56, 57, 58, 59, 60, 61, 62, 63, 118, 119, 120, 121, 122, 123, 124, 125, 126, 127, 128, 129] (by decide +kernel) (by decide +kernel)
set_option maxRecDepth 20000 in
theorem gX8_does_X8_make : GoodIn wsX8_does (wsV RX8 144 RX8 yX8_make wsX8_make) := goodIn_app (goodIn_of _ (by decide +kernel)) ggX8_does_X8_make
set_option maxRecDepth 20000 in
theorem ggX8_does_X8_link : GoodIn wsX8_does wsX8_link := goodIn_r _ [67, 7, 68, 69, 70, 5, 71, 11, 12, 13, 8, 9, 10, 46, 47, 48, 49, 50, 51, 52, 72, 73, 74, 75, 42, 43, 44, 45, 76, 77, 78, 38, 39, 40, 41, 26, 27, 28, 29, 79, 80, 81, 82, 57, 58, 59, 60, 53, 54, 55, 56, 83, 84, 85, 86, 61, 62, 63, 87, 88, 89, 118, 119, 120, 121, 122, 123, 124, 125, 126, 127, 128, 129] (by decide +kernel) (by decide +kernel)
set_option maxRecDepth 20000 in
theorem gX8_does_X8_link : GoodIn wsX8_does (wsV RX8 147 RX8 yX8_link wsX8_link) := goodIn_app (goodIn_of _ (by decide +kernel)) ggX8_does_X8_link
set_option maxRecDepth 20000 in
theorem ggX8_does_X8_follow : GoodIn wsX8_does wsX8_follow := goodIn_r _ [93, 7, 68, 69, 70, 5, 71, 11, 12, 13, 8, 9, 10, 46, 47, 48, 49, 50, 51, 52, 72, 73, 74, 75, 42, 43, 44, 45, 76, 77, 78, 38, 39, 40, 41, 26, 27, 28, 29, 79, 80, 81, 82, 57, 58, 59, 60, 53, 54, 55, 56, 83, 84, 85, 86, 61, 62, 63, 87, 88, 89, 118, 119, 120, 121, 122, 123, 124, 125, 126, 127, 128, 129] (by decide +kernel) (by decide +kernel)
set_option maxRecDepth 20000 in
theorem gX8_does_X8_follow : GoodIn wsX8_does (wsV RX8 150 RX8 yX8_follow wsX8_follow) := goodIn_app (goodIn_of _ (by decide +kernel)) ggX8_does_X8_follow
set_option maxRecDepth 20000 in
theorem ggX8_does_X8_drop : GoodIn wsX8_does wsX8_drop := goodIn_r _ [97, 7, 11, 12, 5, 13, 8, 9, 10, 46, 47, 48, 49, 50, 51, 52, 87, 88, 89, 118, 119, 120, 121, 122, 123, 124, 125, 126, 127, 128, 129] (by decide +kernel) (by decide +kernel)
set_option maxRecDepth 20000 in
theorem gX8_does_X8_drop : GoodIn wsX8_does (wsV RX8 153 RX8 yX8_drop wsX8_drop) := goodIn_app (goodIn_of _ (by decide +kernel)) ggX8_does_X8_drop
set_option maxRecDepth 20000 in
theorem ggX8_does_X8_carry : GoodIn wsX8_does wsX8_carry := goodIn_r _ [101, 8, 9, 5, 10, 42, 43, 44, 45, 7, 46, 47, 48, 49, 50, 51, 52, 102, 103, 104, 105, 72, 73, 74, 75, 76, 77, 78, 38, 39, 40, 41, 26, 27, 28, 29, 79, 80, 81, 82, 57, 58, 59, 60, 53, 54, 55, 56, 83, 84, 85, 86, 61, 62, 63, 106, 107, 108, 109, 118, 119, 120, 121, 122, 123, 124, 125, 126, 127, 128, 129] (by decide +kernel) (by decide +kernel)
set_option maxRecDepth 20000 in
theorem gX8_does_X8_carry : GoodIn wsX8_does (wsV RX8 156 RX8 yX8_carry wsX8_carry) := goodIn_app (goodIn_of _ (by decide +kernel)) ggX8_does_X8_carry
set_option maxRecDepth 20000 in
theorem ggX8_does_X8_begin : GoodIn wsX8_does wsX8_begin := goodIn_r _ [113, 7, 42, 43, 44, 5, 45, 46, 47, 48, 49, 50, 51, 52, 114, 115, 116, 117, 38, 39, 40, 41, 72, 73, 74, 75, 76, 77, 78, 26, 27, 28, 29, 79, 80, 81, 82, 57, 58, 59, 60, 53, 54, 55, 56, 83, 84, 85, 86, 61, 62, 63, 106, 107, 108, 109, 118, 119, 120, 121, 122, 123, 124, 125, 126, 127, 128, 129] (by decide +kernel) (by decide +kernel)
set_option maxRecDepth 20000 in
theorem gX8_does_X8_begin : GoodIn wsX8_does (wsV RX8 159 RX8 yX8_begin wsX8_begin) := goodIn_app (goodIn_of _ (by decide +kernel)) ggX8_does_X8_begin
theorem dX8_does_0 : decode cX8_does 0 = .ok (.iload_n 1, 1) := by decide +kernel
theorem dX8_does_1 : decode cX8_does 1 = .ok (.lookupswitch 136 #[(100, 114), (102, 91), (108, 68), (109, 51), (115, 125)], 51) := by decide +kernel
theorem dX8_does_52 : decode cX8_does 52 = .ok (.aload_n 0, 1) := by decide +kernel
theorem dX8_does_53 : decode cX8_does 53 = .ok (.aload_n 0, 1) := by decide +kernel
theorem dX8_does_54 : decode cX8_does 54 = .ok (.getfield 22, 3) := by decide +kernel
theorem dX8_does_57 : decode cX8_does 57 = .ok (.iconst 0, 1) := by decide +kernel
theorem dX8_does_58 : decode cX8_does 58 = .ok (.iaload, 1) := by decide +kernel
theorem dX8_does_59 : decode cX8_does 59 = .ok (.aload_n 0, 1) := by decide +kernel
theorem dX8_does_60 : decode cX8_does 60 = .ok (.getfield 22, 3) := by decide +kernel
theorem dX8_does_63 : decode cX8_does 63 = .ok (.iconst 1, 1) := by decide +kernel
theorem dX8_does_64 : decode cX8_does 64 = .ok (.iaload, 1) := by decide +kernel
theorem dX8_does_65 : decode cX8_does 65 = .ok (.invokevirtual 144, 3) := by decide +kernel
theorem dX8_does_68 : decode cX8_does 68 = .ok (.ireturn, 1) := by decide +kernel
theorem dX8_does_69 : decode cX8_does 69 = .ok (.aload_n 0, 1) := by decide +kernel
theorem dX8_does_70 : decode cX8_does 70 = .ok (.aload_n 0, 1) := by decide +kernel
theorem dX8_does_71 : decode cX8_does 71 = .ok (.getfield 22, 3) := by decide +kernel
theorem dX8_does_74 : decode cX8_does 74 = .ok (.iconst 0, 1) := by decide +kernel
theorem dX8_does_75 : decode cX8_does 75 = .ok (.iaload, 1) := by decide +kernel
theorem dX8_does_76 : decode cX8_does 76 = .ok (.aload_n 0, 1) := by decide +kernel
theorem dX8_does_77 : decode cX8_does 77 = .ok (.getfield 22, 3) := by decide +kernel
theorem dX8_does_80 : decode cX8_does 80 = .ok (.iconst 1, 1) := by decide +kernel
theorem dX8_does_81 : decode cX8_does 81 = .ok (.iaload, 1) := by decide +kernel
theorem dX8_does_82 : decode cX8_does 82 = .ok (.aload_n 0, 1) := by decide +kernel
theorem dX8_does_83 : decode cX8_does 83 = .ok (.getfield 22, 3) := by decide +kernel
theorem dX8_does_86 : decode cX8_does 86 = .ok (.iconst 2, 1) := by decide +kernel
theorem dX8_does_87 : decode cX8_does 87 = .ok (.iaload, 1) := by decide +kernel
theorem dX8_does_88 : decode cX8_does 88 = .ok (.invokevirtual 147, 3) := by decide +kernel
theorem dX8_does_91 : decode cX8_does 91 = .ok (.ireturn, 1) := by decide +kernel
theorem dX8_does_92 : decode cX8_does 92 = .ok (.aload_n 0, 1) := by decide +kernel
theorem dX8_does_93 : decode cX8_does 93 = .ok (.aload_n 0, 1) := by decide +kernel
theorem dX8_does_94 : decode cX8_does 94 = .ok (.getfield 22, 3) := by decide +kernel
theorem dX8_does_97 : decode cX8_does 97 = .ok (.iconst 0, 1) := by decide +kernel
theorem dX8_does_98 : decode cX8_does 98 = .ok (.iaload, 1) := by decide +kernel
theorem dX8_does_99 : decode cX8_does 99 = .ok (.aload_n 0, 1) := by decide +kernel
theorem dX8_does_100 : decode cX8_does 100 = .ok (.getfield 22, 3) := by decide +kernel
theorem dX8_does_103 : decode cX8_does 103 = .ok (.iconst 1, 1) := by decide +kernel
theorem dX8_does_104 : decode cX8_does 104 = .ok (.iaload, 1) := by decide +kernel
theorem dX8_does_105 : decode cX8_does 105 = .ok (.aload_n 0, 1) := by decide +kernel
theorem dX8_does_106 : decode cX8_does 106 = .ok (.getfield 22, 3) := by decide +kernel
theorem dX8_does_109 : decode cX8_does 109 = .ok (.iconst 2, 1) := by decide +kernel
theorem dX8_does_110 : decode cX8_does 110 = .ok (.iaload, 1) := by decide +kernel
theorem dX8_does_111 : decode cX8_does 111 = .ok (.invokevirtual 150, 3) := by decide +kernel
theorem dX8_does_114 : decode cX8_does 114 = .ok (.ireturn, 1) := by decide +kernel
theorem dX8_does_115 : decode cX8_does 115 = .ok (.aload_n 0, 1) := by decide +kernel
theorem dX8_does_116 : decode cX8_does 116 = .ok (.aload_n 0, 1) := by decide +kernel
theorem dX8_does_117 : decode cX8_does 117 = .ok (.getfield 22, 3) := by decide +kernel
theorem dX8_does_120 : decode cX8_does 120 = .ok (.iconst 0, 1) := by decide +kernel
theorem dX8_does_121 : decode cX8_does 121 = .ok (.iaload, 1) := by decide +kernel
theorem dX8_does_122 : decode cX8_does 122 = .ok (.invokevirtual 153, 3) := by decide +kernel
theorem dX8_does_125 : decode cX8_does 125 = .ok (.ireturn, 1) := by decide +kernel
theorem dX8_does_126 : decode cX8_does 126 = .ok (.aload_n 0, 1) := by decide +kernel
theorem dX8_does_127 : decode cX8_does 127 = .ok (.aload_n 0, 1) := by decide +kernel
theorem dX8_does_128 : decode cX8_does 128 = .ok (.getfield 22, 3) := by decide +kernel
theorem dX8_does_131 : decode cX8_does 131 = .ok (.iconst 0, 1) := by decide +kernel
theorem dX8_does_132 : decode cX8_does 132 = .ok (.iaload, 1) := by decide +kernel
theorem dX8_does_133 : decode cX8_does 133 = .ok (.invokevirtual 156, 3) := by decide +kernel
theorem dX8_does_136 : decode cX8_does 136 = .ok (.ireturn, 1) := by decide +kernel
theorem dX8_does_137 : decode cX8_does 137 = .ok (.aload_n 0, 1) := by decide +kernel
theorem dX8_does_138 : decode cX8_does 138 = .ok (.invokevirtual 159, 3) := by decide +kernel
theorem dX8_does_141 : decode cX8_does 141 = .ok (.ireturn, 1) := by decide +kernel
set_option maxRecDepth 20000 in
theorem ggX8_doesOne_X8_numbersOf : GoodIn wsX8_doesOne wsX8_numbersOf := goodIn_r _ [6] (by decide +kernel) (by decide +kernel)
set_option maxRecDepth 20000 in
theorem gX8_doesOne_X8_numbersOf : GoodIn wsX8_doesOne (va_wsS RX8 162 yX8_numbersOf wsX8_numbersOf) := goodIn_app (goodIn_of _ (by decide +kernel)) ggX8_doesOne_X8_numbersOf
set_option maxRecDepth 20000 in
theorem ggX8_doesOne_X8_isAt : GoodIn wsX8_doesOne wsX8_isAt := goodIn_r _ [10, 1, 11, 2, 12, 13, 5, 14, 136, 137, 138, 139, 140, 141, 142, 143, 144, 145, 146, 147] (by decide +kernel) (by decide +kernel)
set_option maxRecDepth 20000 in
theorem gX8_doesOne_X8_isAt : GoodIn wsX8_doesOne (wsV RX8 140 RX8 yX8_isAt wsX8_isAt) := goodIn_app (goodIn_of _ (by decide +kernel)) ggX8_doesOne_X8_isAt
set_option maxRecDepth 20000 in
theorem ggX8_doesOne_X8_number : GoodIn wsX8_doesOne wsX8_number := goodIn_r _ [18, 1, 19, 2, 7, 8, 9, 5, 10, 11, 12, 13, 14, 136, 137, 138, 139, 140, 141, 142, 143, 144, 145, 146, 147] (by decide +kernel) (by decide +kernel)
set_option maxRecDepth 20000 in
theorem gX8_doesOne_X8_number : GoodIn wsX8_doesOne (wsV RX8 165 RX8 yX8_number wsX8_number) := goodIn_app (goodIn_of _ (by decide +kernel)) ggX8_doesOne_X8_number
set_option maxRecDepth 20000 in
theorem ggX8_doesOne_X8_does : GoodIn wsX8_doesOne wsX8_does := goodIn_r _ [23, 19, 24, 25, 26, 5, 27, 28, 12, 13, 14, 29, 30, 31, 32, 33, 34, 35, 36, 37, 38, 39, 40, 41, 42, 43, 44, 45, 46, 47, 48, 49, 50, 51, 52, 53, 54, 55, 56, 57, 58, 59, 60, 61, 62, 63, 64, 65, 66, 67, 68, 69, 70, 71, 72, 73, 74, 75, 76, 77, 78, 79, 80, 81, 82, 83, 84, 85, 86, 87, 88, 89, 90, 91, 92, 93, 94, 95, 96, 97, 98, 99, 100, 101, 102, 103, 104, 105, 106, 107, 108, 109, 110, 111, 112, 113, 114, 115, 116, 117, 118, 119, 120, 121, 122, 123, 124, 125, 126, 127, 128, 129, 130, 131, 132, 133, 134, 135, 136, 137, 138, 139, 140, 141, 142, 143, 144, 145, 146, 147] (by decide +kernel) (by decide +kernel)
set_option maxRecDepth 20000 in
theorem gX8_doesOne_X8_does : GoodIn wsX8_doesOne (wsV RX8 168 RX8 yX8_does wsX8_does) := goodIn_app (goodIn_of _ (by decide +kernel)) ggX8_doesOne_X8_does
theorem dX8_doesOne_0 : decode cX8_doesOne 0 = .ok (.aload_n 0, 1) := by decide +kernel
theorem dX8_doesOne_1 : decode cX8_doesOne 1 = .ok (.getfield 137, 3) := by decide +kernel
theorem dX8_doesOne_4 : decode cX8_doesOne 4 = .ok (.istore_n 1, 1) := by decide +kernel
theorem dX8_doesOne_5 : decode cX8_doesOne 5 = .ok (.aload_n 0, 1) := by decide +kernel
theorem dX8_doesOne_6 : decode cX8_doesOne 6 = .ok (.getfield 19, 3) := by decide +kernel
theorem dX8_doesOne_9 : decode cX8_doesOne 9 = .ok (.aload_n 0, 1) := by decide +kernel
theorem dX8_doesOne_10 : decode cX8_doesOne 10 = .ok (.getfield 137, 3) := by decide +kernel
theorem dX8_doesOne_13 : decode cX8_doesOne 13 = .ok (.iaload, 1) := by decide +kernel
theorem dX8_doesOne_14 : decode cX8_doesOne 14 = .ok (.istore_n 2, 1) := by decide +kernel
theorem dX8_doesOne_15 : decode cX8_doesOne 15 = .ok (.iload_n 2, 1) := by decide +kernel
theorem dX8_doesOne_16 : decode cX8_doesOne 16 = .ok (.invokestatic 162, 3) := by decide +kernel
theorem dX8_doesOne_19 : decode cX8_doesOne 19 = .ok (.istore_n 3, 1) := by decide +kernel
theorem dX8_doesOne_20 : decode cX8_doesOne 20 = .ok (.iload_n 3, 1) := by decide +kernel
theorem dX8_doesOne_21 : decode cX8_doesOne 21 = .ok (.bipush (-9), 2) := by decide +kernel
theorem dX8_doesOne_23 : decode cX8_doesOne 23 = .ok (.if_icmp .ne 5, 3) := by decide +kernel
theorem dX8_doesOne_26 : decode cX8_doesOne 26 = .ok (.iload_n 1, 1) := by decide +kernel
theorem dX8_doesOne_27 : decode cX8_doesOne 27 = .ok (.ireturn, 1) := by decide +kernel
theorem dX8_doesOne_28 : decode cX8_doesOne 28 = .ok (.aload_n 0, 1) := by decide +kernel
theorem dX8_doesOne_29 : decode cX8_doesOne 29 = .ok (.dup, 1) := by decide +kernel
theorem dX8_doesOne_30 : decode cX8_doesOne 30 = .ok (.getfield 137, 3) := by decide +kernel
theorem dX8_doesOne_33 : decode cX8_doesOne 33 = .ok (.iconst 1, 1) := by decide +kernel
theorem dX8_doesOne_34 : decode cX8_doesOne 34 = .ok (.iadd, 1) := by decide +kernel
theorem dX8_doesOne_35 : decode cX8_doesOne 35 = .ok (.putfield 137, 3) := by decide +kernel
theorem dX8_doesOne_38 : decode cX8_doesOne 38 = .ok (.iload_n 3, 1) := by decide +kernel
theorem dX8_doesOne_39 : decode cX8_doesOne 39 = .ok (.ifCond .ne 29, 3) := by decide +kernel
theorem dX8_doesOne_42 : decode cX8_doesOne 42 = .ok (.aload_n 0, 1) := by decide +kernel
theorem dX8_doesOne_43 : decode cX8_doesOne 43 = .ok (.bipush 59, 2) := by decide +kernel
theorem dX8_doesOne_45 : decode cX8_doesOne 45 = .ok (.bipush 59, 2) := by decide +kernel
theorem dX8_doesOne_47 : decode cX8_doesOne 47 = .ok (.invokevirtual 140, 3) := by decide +kernel
theorem dX8_doesOne_50 : decode cX8_doesOne 50 = .ok (.ifCond .ne 8, 3) := by decide +kernel
theorem dX8_doesOne_53 : decode cX8_doesOne 53 = .ok (.aload_n 0, 1) := by decide +kernel
theorem dX8_doesOne_54 : decode cX8_doesOne 54 = .ok (.getfield 137, 3) := by decide +kernel
theorem dX8_doesOne_57 : decode cX8_doesOne 57 = .ok (.ireturn, 1) := by decide +kernel
theorem dX8_doesOne_58 : decode cX8_doesOne 58 = .ok (.aload_n 0, 1) := by decide +kernel
theorem dX8_doesOne_59 : decode cX8_doesOne 59 = .ok (.dup, 1) := by decide +kernel
theorem dX8_doesOne_60 : decode cX8_doesOne 60 = .ok (.getfield 137, 3) := by decide +kernel
theorem dX8_doesOne_63 : decode cX8_doesOne 63 = .ok (.iconst 1, 1) := by decide +kernel
theorem dX8_doesOne_64 : decode cX8_doesOne 64 = .ok (.iadd, 1) := by decide +kernel
theorem dX8_doesOne_65 : decode cX8_doesOne 65 = .ok (.putfield 137, 3) := by decide +kernel
theorem dX8_doesOne_68 : decode cX8_doesOne 68 = .ok (.iconst 0, 1) := by decide +kernel
theorem dX8_doesOne_69 : decode cX8_doesOne 69 = .ok (.istore 4, 2) := by decide +kernel
theorem dX8_doesOne_71 : decode cX8_doesOne 71 = .ok (.iload 4, 2) := by decide +kernel
theorem dX8_doesOne_73 : decode cX8_doesOne 73 = .ok (.iload_n 3, 1) := by decide +kernel
theorem dX8_doesOne_74 : decode cX8_doesOne 74 = .ok (.if_icmp .ge 38, 3) := by decide +kernel
theorem dX8_doesOne_77 : decode cX8_doesOne 77 = .ok (.aload_n 0, 1) := by decide +kernel
theorem dX8_doesOne_78 : decode cX8_doesOne 78 = .ok (.iload 4, 2) := by decide +kernel
theorem dX8_doesOne_80 : decode cX8_doesOne 80 = .ok (.iload 4, 2) := by decide +kernel
theorem dX8_doesOne_82 : decode cX8_doesOne 82 = .ok (.iload_n 3, 1) := by decide +kernel
theorem dX8_doesOne_83 : decode cX8_doesOne 83 = .ok (.iconst 1, 1) := by decide +kernel
theorem dX8_doesOne_84 : decode cX8_doesOne 84 = .ok (.isub, 1) := by decide +kernel
theorem dX8_doesOne_85 : decode cX8_doesOne 85 = .ok (.if_icmp .ne 8, 3) := by decide +kernel
theorem dX8_doesOne_88 : decode cX8_doesOne 88 = .ok (.bipush 59, 2) := by decide +kernel
theorem dX8_doesOne_90 : decode cX8_doesOne 90 = .ok (.goto 5, 3) := by decide +kernel
theorem dX8_doesOne_93 : decode cX8_doesOne 93 = .ok (.bipush 44, 2) := by decide +kernel
theorem dX8_doesOne_95 : decode cX8_doesOne 95 = .ok (.invokevirtual 165, 3) := by decide +kernel
theorem dX8_doesOne_98 : decode cX8_doesOne 98 = .ok (.ifCond .ne 8, 3) := by decide +kernel
theorem dX8_doesOne_101 : decode cX8_doesOne 101 = .ok (.aload_n 0, 1) := by decide +kernel
theorem dX8_doesOne_102 : decode cX8_doesOne 102 = .ok (.getfield 137, 3) := by decide +kernel
theorem dX8_doesOne_105 : decode cX8_doesOne 105 = .ok (.ireturn, 1) := by decide +kernel
theorem dX8_doesOne_106 : decode cX8_doesOne 106 = .ok (.iinc 4 1, 3) := by decide +kernel
theorem dX8_doesOne_109 : decode cX8_doesOne 109 = .ok (.goto (-38), 3) := by decide +kernel
theorem dX8_doesOne_112 : decode cX8_doesOne 112 = .ok (.aload_n 0, 1) := by decide +kernel
theorem dX8_doesOne_113 : decode cX8_doesOne 113 = .ok (.iload_n 2, 1) := by decide +kernel
theorem dX8_doesOne_114 : decode cX8_doesOne 114 = .ok (.invokevirtual 168, 3) := by decide +kernel
theorem dX8_doesOne_117 : decode cX8_doesOne 117 = .ok (.ifCond .ge 7, 3) := by decide +kernel
theorem dX8_doesOne_120 : decode cX8_doesOne 120 = .ok (.iload_n 1, 1) := by decide +kernel
theorem dX8_doesOne_121 : decode cX8_doesOne 121 = .ok (.goto 5, 3) := by decide +kernel
theorem dX8_doesOne_124 : decode cX8_doesOne 124 = .ok (.bipush (-9), 2) := by decide +kernel
theorem dX8_doesOne_126 : decode cX8_doesOne 126 = .ok (.ireturn, 1) := by decide +kernel
theorem dX8_exchanges_0 : decode cX8_exchanges 0 = .ok (.iconst 0, 1) := by decide +kernel
theorem dX8_exchanges_1 : decode cX8_exchanges 1 = .ok (.istore_n 1, 1) := by decide +kernel
theorem dX8_exchanges_2 : decode cX8_exchanges 2 = .ok (.iload_n 1, 1) := by decide +kernel
theorem dX8_exchanges_3 : decode cX8_exchanges 3 = .ok (.sipush 1125, 3) := by decide +kernel
theorem dX8_exchanges_6 : decode cX8_exchanges 6 = .ok (.if_icmp .ge 35, 3) := by decide +kernel
theorem dX8_exchanges_9 : decode cX8_exchanges 9 = .ok (.aload_n 0, 1) := by decide +kernel
theorem dX8_exchanges_10 : decode cX8_exchanges 10 = .ok (.getfield 7, 3) := by decide +kernel
theorem dX8_exchanges_13 : decode cX8_exchanges 13 = .ok (.iload_n 1, 1) := by decide +kernel
theorem dX8_exchanges_14 : decode cX8_exchanges 14 = .ok (.iaload, 1) := by decide +kernel
theorem dX8_exchanges_15 : decode cX8_exchanges 15 = .ok (.istore_n 2, 1) := by decide +kernel
theorem dX8_exchanges_16 : decode cX8_exchanges 16 = .ok (.aload_n 0, 1) := by decide +kernel
theorem dX8_exchanges_17 : decode cX8_exchanges 17 = .ok (.getfield 7, 3) := by decide +kernel
theorem dX8_exchanges_20 : decode cX8_exchanges 20 = .ok (.iload_n 1, 1) := by decide +kernel
theorem dX8_exchanges_21 : decode cX8_exchanges 21 = .ok (.aload_n 0, 1) := by decide +kernel
theorem dX8_exchanges_22 : decode cX8_exchanges 22 = .ok (.getfield 16, 3) := by decide +kernel
theorem dX8_exchanges_25 : decode cX8_exchanges 25 = .ok (.iload_n 1, 1) := by decide +kernel
theorem dX8_exchanges_26 : decode cX8_exchanges 26 = .ok (.iaload, 1) := by decide +kernel
theorem dX8_exchanges_27 : decode cX8_exchanges 27 = .ok (.iastore, 1) := by decide +kernel
theorem dX8_exchanges_28 : decode cX8_exchanges 28 = .ok (.aload_n 0, 1) := by decide +kernel
theorem dX8_exchanges_29 : decode cX8_exchanges 29 = .ok (.getfield 16, 3) := by decide +kernel
theorem dX8_exchanges_32 : decode cX8_exchanges 32 = .ok (.iload_n 1, 1) := by decide +kernel
theorem dX8_exchanges_33 : decode cX8_exchanges 33 = .ok (.iload_n 2, 1) := by decide +kernel
theorem dX8_exchanges_34 : decode cX8_exchanges 34 = .ok (.iastore, 1) := by decide +kernel
theorem dX8_exchanges_35 : decode cX8_exchanges 35 = .ok (.iinc 1 1, 3) := by decide +kernel
theorem dX8_exchanges_38 : decode cX8_exchanges 38 = .ok (.goto (-36), 3) := by decide +kernel
theorem dX8_exchanges_41 : decode cX8_exchanges 41 = .ok (.return_, 1) := by decide +kernel
theorem dX8_holds_0 : decode cX8_holds 0 = .ok (.iconst 0, 1) := by decide +kernel
theorem dX8_holds_1 : decode cX8_holds 1 = .ok (.istore_n 1, 1) := by decide +kernel
theorem dX8_holds_2 : decode cX8_holds 2 = .ok (.iload_n 1, 1) := by decide +kernel
theorem dX8_holds_3 : decode cX8_holds 3 = .ok (.sipush 1125, 3) := by decide +kernel
theorem dX8_holds_6 : decode cX8_holds 6 = .ok (.if_icmp .ge 21, 3) := by decide +kernel
theorem dX8_holds_9 : decode cX8_holds 9 = .ok (.aload_n 0, 1) := by decide +kernel
theorem dX8_holds_10 : decode cX8_holds 10 = .ok (.getfield 16, 3) := by decide +kernel
theorem dX8_holds_13 : decode cX8_holds 13 = .ok (.iload_n 1, 1) := by decide +kernel
theorem dX8_holds_14 : decode cX8_holds 14 = .ok (.aload_n 0, 1) := by decide +kernel
theorem dX8_holds_15 : decode cX8_holds 15 = .ok (.getfield 7, 3) := by decide +kernel
theorem dX8_holds_18 : decode cX8_holds 18 = .ok (.iload_n 1, 1) := by decide +kernel
theorem dX8_holds_19 : decode cX8_holds 19 = .ok (.iaload, 1) := by decide +kernel
theorem dX8_holds_20 : decode cX8_holds 20 = .ok (.iastore, 1) := by decide +kernel
theorem dX8_holds_21 : decode cX8_holds 21 = .ok (.iinc 1 1, 3) := by decide +kernel
theorem dX8_holds_24 : decode cX8_holds 24 = .ok (.goto (-22), 3) := by decide +kernel
theorem dX8_holds_27 : decode cX8_holds 27 = .ok (.return_, 1) := by decide +kernel
set_option maxRecDepth 20000 in
theorem ggX8_run_X8_holds : GoodIn wsX8_run wsX8_holds := goodIn_r _ [8, 9, 10, 149, 150, 151, 152, 153, 154, 155, 156, 157, 158, 159, 160] (by decide +kernel) (by decide +kernel)
set_option maxRecDepth 20000 in
theorem gX8_run_X8_holds : GoodIn wsX8_run (wsV RX8 171 RX8 yX8_holds wsX8_holds) := goodIn_app (goodIn_of _ (by decide +kernel)) ggX8_run_X8_holds
set_option maxRecDepth 20000 in
theorem ggX8_run_X8_doesOne : GoodIn wsX8_run wsX8_doesOne := goodIn_r _ [14, 2, 15, 16, 17, 7, 18, 19, 20, 21, 22, 3, 23, 24, 25, 26, 27, 28, 29, 30, 31, 32, 33, 34, 35, 36, 37, 38, 10, 39, 40, 41, 42, 43, 44, 45, 46, 47, 48, 49, 50, 51, 52, 53, 54, 55, 56, 57, 58, 59, 60, 61, 62, 63, 64, 65, 66, 67, 68, 69, 70, 71, 72, 73, 74, 75, 76, 77, 1, 78, 79, 80, 81, 82, 83, 84, 85, 86, 87, 88, 89, 90, 91, 92, 93, 94, 95, 96, 97, 98, 99, 100, 101, 102, 103, 104, 105, 106, 107, 108, 109, 110, 111, 112, 113, 114, 115, 116, 117, 118, 119, 120, 121, 122, 123, 124, 125, 126, 127, 128, 129, 130, 131, 132, 133, 134, 135, 136, 137, 138, 139, 140, 141, 142, 143, 144, 149, 150, 151, 152, 153, 154, 155, 156, 157, 158, 159, 160] (by decide +kernel) (by decide +kernel)
set_option maxRecDepth 20000 in
theorem gX8_run_X8_doesOne : GoodIn wsX8_run (wsV RX8 174 RX8 yX8_doesOne wsX8_doesOne) := goodIn_app (goodIn_of _ (by decide +kernel)) ggX8_run_X8_doesOne
set_option maxRecDepth 20000 in
theorem ggX8_run_X8_exchanges : GoodIn wsX8_run wsX8_exchanges := goodIn_r _ [148, 10, 9, 149, 150, 151, 152, 153, 154, 155, 156, 157, 158, 159, 160] (by decide +kernel) (by decide +kernel)
set_option maxRecDepth 20000 in
theorem gX8_run_X8_exchanges : GoodIn wsX8_run (wsV RX8 177 RX8 yX8_exchanges wsX8_exchanges) := goodIn_app (goodIn_of _ (by decide +kernel)) ggX8_run_X8_exchanges
set_option maxRecDepth 20000 in
theorem ggX8_run_X8_acts : GoodIn wsX8_run wsX8_acts := goodIn_r _ [77, 1, 78, 79, 10, 149, 150, 151, 152, 153, 154, 155, 156, 157, 158, 159, 160] (by decide +kernel) (by decide +kernel)
set_option maxRecDepth 20000 in
theorem gX8_run_X8_acts : GoodIn wsX8_run (wsV RX8 94 RX8 yX8_acts wsX8_acts) := goodIn_app (goodIn_of _ (by decide +kernel)) ggX8_run_X8_acts
theorem dX8_run_0 : decode cX8_run 0 = .ok (.aload_n 0, 1) := by decide +kernel
theorem dX8_run_1 : decode cX8_run 1 = .ok (.invokevirtual 171, 3) := by decide +kernel
theorem dX8_run_4 : decode cX8_run 4 = .ok (.aload_n 0, 1) := by decide +kernel
theorem dX8_run_5 : decode cX8_run 5 = .ok (.iconst 1, 1) := by decide +kernel
theorem dX8_run_6 : decode cX8_run 6 = .ok (.putfield 32, 3) := by decide +kernel
theorem dX8_run_9 : decode cX8_run 9 = .ok (.iconst 0, 1) := by decide +kernel
theorem dX8_run_10 : decode cX8_run 10 = .ok (.istore_n 1, 1) := by decide +kernel
theorem dX8_run_11 : decode cX8_run 11 = .ok (.bipush (-9), 2) := by decide +kernel
theorem dX8_run_13 : decode cX8_run 13 = .ok (.istore_n 2, 1) := by decide +kernel
theorem dX8_run_14 : decode cX8_run 14 = .ok (.aload_n 0, 1) := by decide +kernel
theorem dX8_run_15 : decode cX8_run 15 = .ok (.iconst 0, 1) := by decide +kernel
theorem dX8_run_16 : decode cX8_run 16 = .ok (.putfield 137, 3) := by decide +kernel
theorem dX8_run_19 : decode cX8_run 19 = .ok (.iload_n 2, 1) := by decide +kernel
theorem dX8_run_20 : decode cX8_run 20 = .ok (.bipush (-9), 2) := by decide +kernel
theorem dX8_run_22 : decode cX8_run 22 = .ok (.if_icmp .ne 25, 3) := by decide +kernel
theorem dX8_run_25 : decode cX8_run 25 = .ok (.aload_n 0, 1) := by decide +kernel
theorem dX8_run_26 : decode cX8_run 26 = .ok (.getfield 137, 3) := by decide +kernel
theorem dX8_run_29 : decode cX8_run 29 = .ok (.aload_n 0, 1) := by decide +kernel
theorem dX8_run_30 : decode cX8_run 30 = .ok (.getfield 134, 3) := by decide +kernel
theorem dX8_run_33 : decode cX8_run 33 = .ok (.if_icmp .ge 14, 3) := by decide +kernel
theorem dX8_run_36 : decode cX8_run 36 = .ok (.aload_n 0, 1) := by decide +kernel
theorem dX8_run_37 : decode cX8_run 37 = .ok (.invokevirtual 174, 3) := by decide +kernel
theorem dX8_run_40 : decode cX8_run 40 = .ok (.istore_n 2, 1) := by decide +kernel
theorem dX8_run_41 : decode cX8_run 41 = .ok (.iinc 1 1, 3) := by decide +kernel
theorem dX8_run_44 : decode cX8_run 44 = .ok (.goto (-25), 3) := by decide +kernel
theorem dX8_run_47 : decode cX8_run 47 = .ok (.aload_n 0, 1) := by decide +kernel
theorem dX8_run_48 : decode cX8_run 48 = .ok (.iconst 0, 1) := by decide +kernel
theorem dX8_run_49 : decode cX8_run 49 = .ok (.putfield 32, 3) := by decide +kernel
theorem dX8_run_52 : decode cX8_run 52 = .ok (.aload_n 0, 1) := by decide +kernel
theorem dX8_run_53 : decode cX8_run 53 = .ok (.invokevirtual 177, 3) := by decide +kernel
theorem dX8_run_56 : decode cX8_run 56 = .ok (.iload_n 2, 1) := by decide +kernel
theorem dX8_run_57 : decode cX8_run 57 = .ok (.bipush (-9), 2) := by decide +kernel
theorem dX8_run_59 : decode cX8_run 59 = .ok (.if_icmp .eq 9, 3) := by decide +kernel
theorem dX8_run_62 : decode cX8_run 62 = .ok (.sipush (-1000), 3) := by decide +kernel
theorem dX8_run_65 : decode cX8_run 65 = .ok (.iload_n 2, 1) := by decide +kernel
theorem dX8_run_66 : decode cX8_run 66 = .ok (.isub, 1) := by decide +kernel
theorem dX8_run_67 : decode cX8_run 67 = .ok (.ireturn, 1) := by decide +kernel
theorem dX8_run_68 : decode cX8_run 68 = .ok (.aload_n 0, 1) := by decide +kernel
theorem dX8_run_69 : decode cX8_run 69 = .ok (.invokevirtual 94, 3) := by decide +kernel
theorem dX8_run_72 : decode cX8_run 72 = .ok (.aload_n 0, 1) := by decide +kernel
theorem dX8_run_73 : decode cX8_run 73 = .ok (.invokevirtual 177, 3) := by decide +kernel
theorem dX8_run_76 : decode cX8_run 76 = .ok (.aload_n 0, 1) := by decide +kernel
theorem dX8_run_77 : decode cX8_run 77 = .ok (.iconst 0, 1) := by decide +kernel
theorem dX8_run_78 : decode cX8_run 78 = .ok (.putfield 134, 3) := by decide +kernel
theorem dX8_run_81 : decode cX8_run 81 = .ok (.iload_n 1, 1) := by decide +kernel
theorem dX8_run_82 : decode cX8_run 82 = .ok (.ireturn, 1) := by decide +kernel
set_option maxRecDepth 20000 in
theorem ggX8_allCopies_X8_isCopy : GoodIn wsX8_allCopies wsX8_isCopy := goodIn_r _ [5, 6, 7, 8, 4, 9, 10, 11, 12, 13, 14, 15, 16, 17, 18, 19, 20, 21, 22] (by decide +kernel) (by decide +kernel)
set_option maxRecDepth 20000 in
theorem gX8_allCopies_X8_isCopy : GoodIn wsX8_allCopies (wsV RX8 48 RX8 yX8_isCopy wsX8_isCopy) := goodIn_app (goodIn_of _ (by decide +kernel)) ggX8_allCopies_X8_isCopy
theorem dX8_allCopies_0 : decode cX8_allCopies 0 = .ok (.iconst 0, 1) := by decide +kernel
theorem dX8_allCopies_1 : decode cX8_allCopies 1 = .ok (.istore_n 1, 1) := by decide +kernel
theorem dX8_allCopies_2 : decode cX8_allCopies 2 = .ok (.iconst 0, 1) := by decide +kernel
theorem dX8_allCopies_3 : decode cX8_allCopies 3 = .ok (.istore_n 2, 1) := by decide +kernel
theorem dX8_allCopies_4 : decode cX8_allCopies 4 = .ok (.iload_n 2, 1) := by decide +kernel
theorem dX8_allCopies_5 : decode cX8_allCopies 5 = .ok (.sipush 188, 3) := by decide +kernel
theorem dX8_allCopies_8 : decode cX8_allCopies 8 = .ok (.if_icmp .ge 25, 3) := by decide +kernel
theorem dX8_allCopies_11 : decode cX8_allCopies 11 = .ok (.iload_n 1, 1) := by decide +kernel
theorem dX8_allCopies_12 : decode cX8_allCopies 12 = .ok (.aload_n 0, 1) := by decide +kernel
theorem dX8_allCopies_13 : decode cX8_allCopies 13 = .ok (.iload_n 2, 1) := by decide +kernel
theorem dX8_allCopies_14 : decode cX8_allCopies 14 = .ok (.invokevirtual 48, 3) := by decide +kernel
theorem dX8_allCopies_17 : decode cX8_allCopies 17 = .ok (.ifCond .eq 7, 3) := by decide +kernel
theorem dX8_allCopies_20 : decode cX8_allCopies 20 = .ok (.iconst 1, 1) := by decide +kernel
theorem dX8_allCopies_21 : decode cX8_allCopies 21 = .ok (.goto 4, 3) := by decide +kernel
theorem dX8_allCopies_24 : decode cX8_allCopies 24 = .ok (.iconst 0, 1) := by decide +kernel
theorem dX8_allCopies_25 : decode cX8_allCopies 25 = .ok (.iadd, 1) := by decide +kernel
theorem dX8_allCopies_26 : decode cX8_allCopies 26 = .ok (.istore_n 1, 1) := by decide +kernel
theorem dX8_allCopies_27 : decode cX8_allCopies 27 = .ok (.iinc 2 1, 3) := by decide +kernel
theorem dX8_allCopies_30 : decode cX8_allCopies 30 = .ok (.goto (-26), 3) := by decide +kernel
theorem dX8_allCopies_33 : decode cX8_allCopies 33 = .ok (.iload_n 1, 1) := by decide +kernel
theorem dX8_allCopies_34 : decode cX8_allCopies 34 = .ok (.ireturn, 1) := by decide +kernel
set_option maxRecDepth 20000 in
theorem ggX8_freeFloor_X8_sizeAt : GoodIn wsX8_freeFloor wsX8_sizeAt := goodIn_r _ [5, 6, 7, 8, 9, 4, 10, 11, 12, 13, 14, 15, 16, 17, 18, 19, 20, 21, 22, 23, 24, 25, 26] (by decide +kernel) (by decide +kernel)
set_option maxRecDepth 20000 in
theorem gX8_freeFloor_X8_sizeAt : GoodIn wsX8_freeFloor (wsV RX8 60 RX8 yX8_sizeAt wsX8_sizeAt) := goodIn_app (goodIn_of _ (by decide +kernel)) ggX8_freeFloor_X8_sizeAt
theorem dX8_freeFloor_0 : decode cX8_freeFloor 0 = .ok (.bipush 60, 2) := by decide +kernel
theorem dX8_freeFloor_2 : decode cX8_freeFloor 2 = .ok (.istore_n 1, 1) := by decide +kernel
theorem dX8_freeFloor_3 : decode cX8_freeFloor 3 = .ok (.sipush 128, 3) := by decide +kernel
theorem dX8_freeFloor_6 : decode cX8_freeFloor 6 = .ok (.istore_n 2, 1) := by decide +kernel
theorem dX8_freeFloor_7 : decode cX8_freeFloor 7 = .ok (.iload_n 2, 1) := by decide +kernel
theorem dX8_freeFloor_8 : decode cX8_freeFloor 8 = .ok (.sipush 188, 3) := by decide +kernel
theorem dX8_freeFloor_11 : decode cX8_freeFloor 11 = .ok (.if_icmp .ge 17, 3) := by decide +kernel
theorem dX8_freeFloor_14 : decode cX8_freeFloor 14 = .ok (.iload_n 1, 1) := by decide +kernel
theorem dX8_freeFloor_15 : decode cX8_freeFloor 15 = .ok (.aload_n 0, 1) := by decide +kernel
theorem dX8_freeFloor_16 : decode cX8_freeFloor 16 = .ok (.iload_n 2, 1) := by decide +kernel
theorem dX8_freeFloor_17 : decode cX8_freeFloor 17 = .ok (.invokevirtual 60, 3) := by decide +kernel
theorem dX8_freeFloor_20 : decode cX8_freeFloor 20 = .ok (.isub, 1) := by decide +kernel
theorem dX8_freeFloor_21 : decode cX8_freeFloor 21 = .ok (.istore_n 1, 1) := by decide +kernel
theorem dX8_freeFloor_22 : decode cX8_freeFloor 22 = .ok (.iinc 2 1, 3) := by decide +kernel
theorem dX8_freeFloor_25 : decode cX8_freeFloor 25 = .ok (.goto (-18), 3) := by decide +kernel
theorem dX8_freeFloor_28 : decode cX8_freeFloor 28 = .ok (.iload_n 1, 1) := by decide +kernel
theorem dX8_freeFloor_29 : decode cX8_freeFloor 29 = .ok (.ireturn, 1) := by decide +kernel
set_option maxRecDepth 20000 in
theorem ggX8_twins_X8_copies : GoodIn wsX8_twins wsX8_copies := goodIn_r _ [6, 7, 8, 9, 5, 10, 1, 11, 12, 13, 14, 15, 16, 17, 18, 19, 20, 21, 22, 23, 24, 25, 26, 27, 28, 29, 30] (by decide +kernel) (by decide +kernel)
set_option maxRecDepth 20000 in
theorem gX8_twins_X8_copies : GoodIn wsX8_twins (wsV RX8 124 RX8 yX8_copies wsX8_copies) := goodIn_app (goodIn_of _ (by decide +kernel)) ggX8_twins_X8_copies
theorem dX8_twins_0 : decode cX8_twins 0 = .ok (.iconst 0, 1) := by decide +kernel
theorem dX8_twins_1 : decode cX8_twins 1 = .ok (.istore_n 1, 1) := by decide +kernel
theorem dX8_twins_2 : decode cX8_twins 2 = .ok (.iconst 0, 1) := by decide +kernel
theorem dX8_twins_3 : decode cX8_twins 3 = .ok (.istore_n 2, 1) := by decide +kernel
theorem dX8_twins_4 : decode cX8_twins 4 = .ok (.iload_n 2, 1) := by decide +kernel
theorem dX8_twins_5 : decode cX8_twins 5 = .ok (.aload_n 0, 1) := by decide +kernel
theorem dX8_twins_6 : decode cX8_twins 6 = .ok (.getfield 7, 3) := by decide +kernel
theorem dX8_twins_9 : decode cX8_twins 9 = .ok (.iconst 0, 1) := by decide +kernel
theorem dX8_twins_10 : decode cX8_twins 10 = .ok (.iaload, 1) := by decide +kernel
theorem dX8_twins_11 : decode cX8_twins 11 = .ok (.if_icmp .ge 26, 3) := by decide +kernel
theorem dX8_twins_14 : decode cX8_twins 14 = .ok (.iload_n 1, 1) := by decide +kernel
theorem dX8_twins_15 : decode cX8_twins 15 = .ok (.aload_n 0, 1) := by decide +kernel
theorem dX8_twins_16 : decode cX8_twins 16 = .ok (.iload_n 2, 1) := by decide +kernel
theorem dX8_twins_17 : decode cX8_twins 17 = .ok (.invokevirtual 124, 3) := by decide +kernel
theorem dX8_twins_20 : decode cX8_twins 20 = .ok (.iconst 1, 1) := by decide +kernel
theorem dX8_twins_21 : decode cX8_twins 21 = .ok (.if_icmp .le 7, 3) := by decide +kernel
theorem dX8_twins_24 : decode cX8_twins 24 = .ok (.iconst 1, 1) := by decide +kernel
theorem dX8_twins_25 : decode cX8_twins 25 = .ok (.goto 4, 3) := by decide +kernel
theorem dX8_twins_28 : decode cX8_twins 28 = .ok (.iconst 0, 1) := by decide +kernel
theorem dX8_twins_29 : decode cX8_twins 29 = .ok (.iadd, 1) := by decide +kernel
theorem dX8_twins_30 : decode cX8_twins 30 = .ok (.istore_n 1, 1) := by decide +kernel
theorem dX8_twins_31 : decode cX8_twins 31 = .ok (.iinc 2 1, 3) := by decide +kernel
theorem dX8_twins_34 : decode cX8_twins 34 = .ok (.goto (-30), 3) := by decide +kernel
theorem dX8_twins_37 : decode cX8_twins 37 = .ok (.iload_n 1, 1) := by decide +kernel
theorem dX8_twins_38 : decode cX8_twins 38 = .ok (.ireturn, 1) := by decide +kernel
set_option maxRecDepth 20000 in
theorem ggX8_count_X8_allCopies : GoodIn wsX8_count wsX8_allCopies := goodIn_r _ [8, 9, 10, 11, 7, 12, 13, 14, 15, 16, 1, 49, 50, 51, 52, 53, 54, 55, 56, 57, 58, 59, 60] (by decide +kernel) (by decide +kernel)
set_option maxRecDepth 20000 in
theorem gX8_count_X8_allCopies : GoodIn wsX8_count (wsV RX8 180 RX8 yX8_allCopies wsX8_allCopies) := goodIn_app (goodIn_of _ (by decide +kernel)) ggX8_count_X8_allCopies
set_option maxRecDepth 20000 in
theorem ggX8_count_X8_free : GoodIn wsX8_count wsX8_free := goodIn_r _ [20, 1, 49, 50, 51, 52, 53, 54, 55, 56, 57, 58, 59, 60] (by decide +kernel) (by decide +kernel)
set_option maxRecDepth 20000 in
theorem gX8_count_X8_free : GoodIn wsX8_count (wsV RX8 103 RX8 yX8_free wsX8_free) := goodIn_app (goodIn_of _ (by decide +kernel)) ggX8_count_X8_free
set_option maxRecDepth 20000 in
theorem ggX8_count_X8_freeFloor : GoodIn wsX8_count wsX8_freeFloor := goodIn_r _ [24, 25, 26, 27, 7, 28, 1, 9, 10, 11, 12, 13, 14, 15, 16, 49, 50, 51, 52, 53, 54, 55, 56, 57, 58, 59, 60] (by decide +kernel) (by decide +kernel)
set_option maxRecDepth 20000 in
theorem gX8_count_X8_freeFloor : GoodIn wsX8_count (wsV RX8 183 RX8 yX8_freeFloor wsX8_freeFloor) := goodIn_app (goodIn_of _ (by decide +kernel)) ggX8_count_X8_freeFloor
set_option maxRecDepth 20000 in
theorem ggX8_count_X8_kept : GoodIn wsX8_count wsX8_kept := goodIn_r _ [32, 33, 34, 35, 7, 36, 1, 37, 38, 39, 40, 9, 10, 11, 12, 13, 14, 15, 16, 25, 26, 27, 28, 49, 50, 51, 52, 53, 54, 55, 56, 57, 58, 59, 60] (by decide +kernel) (by decide +kernel)
set_option maxRecDepth 20000 in
theorem gX8_count_X8_kept : GoodIn wsX8_count (wsV RX8 106 RX8 yX8_kept wsX8_kept) := goodIn_app (goodIn_of _ (by decide +kernel)) ggX8_count_X8_kept
set_option maxRecDepth 20000 in
theorem ggX8_count_X8_twins : GoodIn wsX8_count wsX8_twins := goodIn_r _ [44, 1, 45, 46, 47, 7, 48, 37, 38, 39, 40, 33, 34, 35, 36, 13, 14, 15, 16, 49, 50, 51, 52, 53, 54, 55, 56, 57, 58, 59, 60] (by decide +kernel) (by decide +kernel)
set_option maxRecDepth 20000 in
theorem gX8_count_X8_twins : GoodIn wsX8_count (wsV RX8 186 RX8 yX8_twins wsX8_twins) := goodIn_app (goodIn_of _ (by decide +kernel)) ggX8_count_X8_twins
theorem dX8_count_0 : decode cX8_count 0 = .ok (.iload_n 1, 1) := by decide +kernel
theorem dX8_count_1 : decode cX8_count 1 = .ok (.tableswitch 164 0 13 #[71, 78, 83, 90, 97, 108, 113, 121, 126, 134, 142, 147, 154, 159], 71) := by decide +kernel
theorem dX8_count_72 : decode cX8_count 72 = .ok (.aload_n 0, 1) := by decide +kernel
theorem dX8_count_73 : decode cX8_count 73 = .ok (.getfield 7, 3) := by decide +kernel
theorem dX8_count_76 : decode cX8_count 76 = .ok (.iconst 0, 1) := by decide +kernel
theorem dX8_count_77 : decode cX8_count 77 = .ok (.iaload, 1) := by decide +kernel
theorem dX8_count_78 : decode cX8_count 78 = .ok (.ireturn, 1) := by decide +kernel
theorem dX8_count_79 : decode cX8_count 79 = .ok (.aload_n 0, 1) := by decide +kernel
theorem dX8_count_80 : decode cX8_count 80 = .ok (.invokevirtual 180, 3) := by decide +kernel
theorem dX8_count_83 : decode cX8_count 83 = .ok (.ireturn, 1) := by decide +kernel
theorem dX8_count_84 : decode cX8_count 84 = .ok (.aload_n 0, 1) := by decide +kernel
theorem dX8_count_85 : decode cX8_count 85 = .ok (.getfield 7, 3) := by decide +kernel
theorem dX8_count_88 : decode cX8_count 88 = .ok (.iconst 2, 1) := by decide +kernel
theorem dX8_count_89 : decode cX8_count 89 = .ok (.iaload, 1) := by decide +kernel
theorem dX8_count_90 : decode cX8_count 90 = .ok (.ireturn, 1) := by decide +kernel
theorem dX8_count_91 : decode cX8_count 91 = .ok (.aload_n 0, 1) := by decide +kernel
theorem dX8_count_92 : decode cX8_count 92 = .ok (.getfield 7, 3) := by decide +kernel
theorem dX8_count_95 : decode cX8_count 95 = .ok (.iconst 3, 1) := by decide +kernel
theorem dX8_count_96 : decode cX8_count 96 = .ok (.iaload, 1) := by decide +kernel
theorem dX8_count_97 : decode cX8_count 97 = .ok (.ireturn, 1) := by decide +kernel
theorem dX8_count_98 : decode cX8_count 98 = .ok (.aload_n 0, 1) := by decide +kernel
theorem dX8_count_99 : decode cX8_count 99 = .ok (.aload_n 0, 1) := by decide +kernel
theorem dX8_count_100 : decode cX8_count 100 = .ok (.getfield 7, 3) := by decide +kernel
theorem dX8_count_103 : decode cX8_count 103 = .ok (.iconst 3, 1) := by decide +kernel
theorem dX8_count_104 : decode cX8_count 104 = .ok (.iaload, 1) := by decide +kernel
theorem dX8_count_105 : decode cX8_count 105 = .ok (.invokevirtual 103, 3) := by decide +kernel
theorem dX8_count_108 : decode cX8_count 108 = .ok (.ireturn, 1) := by decide +kernel
theorem dX8_count_109 : decode cX8_count 109 = .ok (.aload_n 0, 1) := by decide +kernel
theorem dX8_count_110 : decode cX8_count 110 = .ok (.invokevirtual 183, 3) := by decide +kernel
theorem dX8_count_113 : decode cX8_count 113 = .ok (.ireturn, 1) := by decide +kernel
theorem dX8_count_114 : decode cX8_count 114 = .ok (.aload_n 0, 1) := by decide +kernel
theorem dX8_count_115 : decode cX8_count 115 = .ok (.getfield 7, 3) := by decide +kernel
theorem dX8_count_118 : decode cX8_count 118 = .ok (.bipush 8, 2) := by decide +kernel
theorem dX8_count_120 : decode cX8_count 120 = .ok (.iaload, 1) := by decide +kernel
theorem dX8_count_121 : decode cX8_count 121 = .ok (.ireturn, 1) := by decide +kernel
theorem dX8_count_122 : decode cX8_count 122 = .ok (.aload_n 0, 1) := by decide +kernel
theorem dX8_count_123 : decode cX8_count 123 = .ok (.invokevirtual 106, 3) := by decide +kernel
theorem dX8_count_126 : decode cX8_count 126 = .ok (.ireturn, 1) := by decide +kernel
theorem dX8_count_127 : decode cX8_count 127 = .ok (.aload_n 0, 1) := by decide +kernel
theorem dX8_count_128 : decode cX8_count 128 = .ok (.getfield 7, 3) := by decide +kernel
theorem dX8_count_131 : decode cX8_count 131 = .ok (.bipush 6, 2) := by decide +kernel
theorem dX8_count_133 : decode cX8_count 133 = .ok (.iaload, 1) := by decide +kernel
theorem dX8_count_134 : decode cX8_count 134 = .ok (.ireturn, 1) := by decide +kernel
theorem dX8_count_135 : decode cX8_count 135 = .ok (.aload_n 0, 1) := by decide +kernel
theorem dX8_count_136 : decode cX8_count 136 = .ok (.getfield 7, 3) := by decide +kernel
theorem dX8_count_139 : decode cX8_count 139 = .ok (.bipush 7, 2) := by decide +kernel
theorem dX8_count_141 : decode cX8_count 141 = .ok (.iaload, 1) := by decide +kernel
theorem dX8_count_142 : decode cX8_count 142 = .ok (.ireturn, 1) := by decide +kernel
theorem dX8_count_143 : decode cX8_count 143 = .ok (.aload_n 0, 1) := by decide +kernel
theorem dX8_count_144 : decode cX8_count 144 = .ok (.invokevirtual 186, 3) := by decide +kernel
theorem dX8_count_147 : decode cX8_count 147 = .ok (.ireturn, 1) := by decide +kernel
theorem dX8_count_148 : decode cX8_count 148 = .ok (.aload_n 0, 1) := by decide +kernel
theorem dX8_count_149 : decode cX8_count 149 = .ok (.getfield 7, 3) := by decide +kernel
theorem dX8_count_152 : decode cX8_count 152 = .ok (.iconst 1, 1) := by decide +kernel
theorem dX8_count_153 : decode cX8_count 153 = .ok (.iaload, 1) := by decide +kernel
theorem dX8_count_154 : decode cX8_count 154 = .ok (.ireturn, 1) := by decide +kernel
theorem dX8_count_155 : decode cX8_count 155 = .ok (.aload_n 0, 1) := by decide +kernel
theorem dX8_count_156 : decode cX8_count 156 = .ok (.getfield 36, 3) := by decide +kernel
theorem dX8_count_159 : decode cX8_count 159 = .ok (.ireturn, 1) := by decide +kernel
theorem dX8_count_160 : decode cX8_count 160 = .ok (.aload_n 0, 1) := by decide +kernel
theorem dX8_count_161 : decode cX8_count 161 = .ok (.getfield 134, 3) := by decide +kernel
theorem dX8_count_164 : decode cX8_count 164 = .ok (.ireturn, 1) := by decide +kernel
theorem dX8_count_165 : decode cX8_count 165 = .ok (.iconst (-1), 1) := by decide +kernel
theorem dX8_count_166 : decode cX8_count 166 = .ok (.ireturn, 1) := by decide +kernel
set_option maxRecDepth 20000 in
theorem ggX8_hook_X8_isHook : GoodIn wsX8_hook wsX8_isHook := goodIn_r _ [5, 6, 7, 4, 8] (by decide +kernel) (by decide +kernel)
set_option maxRecDepth 20000 in
theorem gX8_hook_X8_isHook : GoodIn wsX8_hook (va_wsS RX8 97 yX8_isHook wsX8_isHook) := goodIn_app (goodIn_of _ (by decide +kernel)) ggX8_hook_X8_isHook
theorem dX8_hook_0 : decode cX8_hook 0 = .ok (.iload_n 1, 1) := by decide +kernel
theorem dX8_hook_1 : decode cX8_hook 1 = .ok (.invokestatic 97, 3) := by decide +kernel
theorem dX8_hook_4 : decode cX8_hook 4 = .ok (.ifCond .eq 15, 3) := by decide +kernel
theorem dX8_hook_7 : decode cX8_hook 7 = .ok (.aload_n 0, 1) := by decide +kernel
theorem dX8_hook_8 : decode cX8_hook 8 = .ok (.getfield 7, 3) := by decide +kernel
theorem dX8_hook_11 : decode cX8_hook 11 = .ok (.bipush 9, 2) := by decide +kernel
theorem dX8_hook_13 : decode cX8_hook 13 = .ok (.iload_n 1, 1) := by decide +kernel
theorem dX8_hook_14 : decode cX8_hook 14 = .ok (.iadd, 1) := by decide +kernel
theorem dX8_hook_15 : decode cX8_hook 15 = .ok (.iaload, 1) := by decide +kernel
theorem dX8_hook_16 : decode cX8_hook 16 = .ok (.goto 4, 3) := by decide +kernel
theorem dX8_hook_19 : decode cX8_hook 19 = .ok (.iconst (-1), 1) := by decide +kernel
theorem dX8_hook_20 : decode cX8_hook 20 = .ok (.ireturn, 1) := by decide +kernel
set_option maxRecDepth 20000 in
theorem ggX8_copy_X8_isAddress : GoodIn wsX8_copy wsX8_isAddress := goodIn_r _ [4] (by decide +kernel) (by decide +kernel)
set_option maxRecDepth 20000 in
theorem gX8_copy_X8_isAddress : GoodIn wsX8_copy (va_wsS RX8 189 yX8_isAddress wsX8_isAddress) := goodIn_app (goodIn_of _ (by decide +kernel)) ggX8_copy_X8_isAddress
set_option maxRecDepth 20000 in
theorem ggX8_copy_X8_cell : GoodIn wsX8_copy wsX8_cell := goodIn_r _ [7] (by decide +kernel) (by decide +kernel)
set_option maxRecDepth 20000 in
theorem gX8_copy_X8_cell : GoodIn wsX8_copy (va_wsS RX8 79 yX8_cell wsX8_cell) := goodIn_app (goodIn_of _ (by decide +kernel)) ggX8_copy_X8_cell
set_option maxRecDepth 20000 in
theorem ggX8_copy_X8_isCopy : GoodIn wsX8_copy wsX8_isCopy := goodIn_r _ [11, 12, 13, 14, 3, 15, 16, 24, 25, 26, 27, 28, 29, 30, 31, 32, 33, 34, 35] (by decide +kernel) (by decide +kernel)
set_option maxRecDepth 20000 in
theorem gX8_copy_X8_isCopy : GoodIn wsX8_copy (wsV RX8 48 RX8 yX8_isCopy wsX8_isCopy) := goodIn_app (goodIn_of _ (by decide +kernel)) ggX8_copy_X8_isCopy
set_option maxRecDepth 20000 in
theorem ggX8_copy_X8_in : GoodIn wsX8_copy wsX8_in := goodIn_r _ [19] (by decide +kernel) (by decide +kernel)
set_option maxRecDepth 20000 in
theorem gX8_copy_X8_in : GoodIn wsX8_copy (va_wsS RX8 40 yX8_in wsX8_in) := goodIn_app (goodIn_of _ (by decide +kernel)) ggX8_copy_X8_in
set_option maxRecDepth 20000 in
theorem ggX8_copy_X8_ofCopy : GoodIn wsX8_copy wsX8_ofCopy := goodIn_r _ [15, 16, 24, 25, 26, 27, 28, 29, 30, 31, 32, 33, 34, 35] (by decide +kernel) (by decide +kernel)
set_option maxRecDepth 20000 in
theorem gX8_copy_X8_ofCopy : GoodIn wsX8_copy (wsV RX8 44 RX8 yX8_ofCopy wsX8_ofCopy) := goodIn_app (goodIn_of _ (by decide +kernel)) ggX8_copy_X8_ofCopy
set_option maxRecDepth 20000 in
theorem ggX8_copy_X8_sizeAt : GoodIn wsX8_copy wsX8_sizeAt := goodIn_r _ [23, 16, 8, 9, 10, 3, 11, 12, 13, 14, 15, 24, 25, 26, 27, 28, 29, 30, 31, 32, 33, 34, 35] (by decide +kernel) (by decide +kernel)
set_option maxRecDepth 20000 in
theorem gX8_copy_X8_sizeAt : GoodIn wsX8_copy (wsV RX8 60 RX8 yX8_sizeAt wsX8_sizeAt) := goodIn_app (goodIn_of _ (by decide +kernel)) ggX8_copy_X8_sizeAt
theorem dX8_copy_0 : decode cX8_copy 0 = .ok (.iload_n 1, 1) := by decide +kernel
theorem dX8_copy_1 : decode cX8_copy 1 = .ok (.invokestatic 189, 3) := by decide +kernel
theorem dX8_copy_4 : decode cX8_copy 4 = .ok (.ifCond .eq 23, 3) := by decide +kernel
theorem dX8_copy_7 : decode cX8_copy 7 = .ok (.aload_n 0, 1) := by decide +kernel
theorem dX8_copy_8 : decode cX8_copy 8 = .ok (.iload_n 1, 1) := by decide +kernel
theorem dX8_copy_9 : decode cX8_copy 9 = .ok (.invokestatic 79, 3) := by decide +kernel
theorem dX8_copy_12 : decode cX8_copy 12 = .ok (.invokevirtual 48, 3) := by decide +kernel
theorem dX8_copy_15 : decode cX8_copy 15 = .ok (.ifCond .eq 12, 3) := by decide +kernel
theorem dX8_copy_18 : decode cX8_copy 18 = .ok (.iload_n 2, 1) := by decide +kernel
theorem dX8_copy_19 : decode cX8_copy 19 = .ok (.iconst 0, 1) := by decide +kernel
theorem dX8_copy_20 : decode cX8_copy 20 = .ok (.iconst 5, 1) := by decide +kernel
theorem dX8_copy_21 : decode cX8_copy 21 = .ok (.invokestatic 40, 3) := by decide +kernel
theorem dX8_copy_24 : decode cX8_copy 24 = .ok (.ifCond .ne 5, 3) := by decide +kernel
theorem dX8_copy_27 : decode cX8_copy 27 = .ok (.iconst (-1), 1) := by decide +kernel
theorem dX8_copy_28 : decode cX8_copy 28 = .ok (.ireturn, 1) := by decide +kernel
