theorem dL_read_85 : decode cL_read 85 = .ok (.iload 6, 2) := by decide +kernel
theorem dL_read_87 : decode cL_read 87 = .ok (.ireturn, 1) := by decide +kernel
theorem dL_read_88 : decode cL_read 88 = .ok (.lload 7, 2) := by decide +kernel
theorem dL_read_90 : decode cL_read 90 = .ok (.iconst 2, 1) := by decide +kernel
theorem dL_read_91 : decode cL_read 91 = .ok (.invokestatic 15, 3) := by decide +kernel
theorem dL_read_94 : decode cL_read 94 = .ok (.ifCond .ge 84, 3) := by decide +kernel
theorem dL_read_97 : decode cL_read 97 = .ok (.aload_n 0, 1) := by decide +kernel
theorem dL_read_98 : decode cL_read 98 = .ok (.aload_n 1, 1) := by decide +kernel
theorem dL_read_99 : decode cL_read 99 = .ok (.aload_n 3, 1) := by decide +kernel
theorem dL_read_100 : decode cL_read 100 = .ok (.aload 4, 2) := by decide +kernel
theorem dL_read_102 : decode cL_read 102 = .ok (.aload 5, 2) := by decide +kernel
theorem dL_read_104 : decode cL_read 104 = .ok (.lload 7, 2) := by decide +kernel
theorem dL_read_106 : decode cL_read 106 = .ok (.invokestatic 21, 3) := by decide +kernel
theorem dL_read_109 : decode cL_read 109 = .ok (.lload 7, 2) := by decide +kernel
theorem dL_read_111 : decode cL_read 111 = .ok (.iconst 0, 1) := by decide +kernel
theorem dL_read_112 : decode cL_read 112 = .ok (.invokestatic 15, 3) := by decide +kernel
theorem dL_read_115 : decode cL_read 115 = .ok (.lload 7, 2) := by decide +kernel
theorem dL_read_117 : decode cL_read 117 = .ok (.iconst 1, 1) := by decide +kernel
theorem dL_read_118 : decode cL_read 118 = .ok (.invokestatic 15, 3) := by decide +kernel
theorem dL_read_121 : decode cL_read 121 = .ok (.invokestatic 42, 3) := by decide +kernel
theorem dL_read_124 : decode cL_read 124 = .ok (.istore 9, 2) := by decide +kernel
theorem dL_read_126 : decode cL_read 126 = .ok (.aload_n 2, 1) := by decide +kernel
theorem dL_read_127 : decode cL_read 127 = .ok (.aload_n 0, 1) := by decide +kernel
theorem dL_read_128 : decode cL_read 128 = .ok (.bipush 8, 2) := by decide +kernel
theorem dL_read_130 : decode cL_read 130 = .ok (.iaload, 1) := by decide +kernel
theorem dL_read_131 : decode cL_read 131 = .ok (.iload 9, 2) := by decide +kernel
theorem dL_read_133 : decode cL_read 133 = .ok (.iastore, 1) := by decide +kernel
theorem dL_read_134 : decode cL_read 134 = .ok (.aload_n 0, 1) := by decide +kernel
theorem dL_read_135 : decode cL_read 135 = .ok (.bipush 8, 2) := by decide +kernel
theorem dL_read_137 : decode cL_read 137 = .ok (.dup2, 1) := by decide +kernel
theorem dL_read_138 : decode cL_read 138 = .ok (.iaload, 1) := by decide +kernel
theorem dL_read_139 : decode cL_read 139 = .ok (.iconst 1, 1) := by decide +kernel
theorem dL_read_140 : decode cL_read 140 = .ok (.iadd, 1) := by decide +kernel
theorem dL_read_141 : decode cL_read 141 = .ok (.iastore, 1) := by decide +kernel
theorem dL_read_142 : decode cL_read 142 = .ok (.aload_n 3, 1) := by decide +kernel
theorem dL_read_143 : decode cL_read 143 = .ok (.aload 4, 2) := by decide +kernel
theorem dL_read_145 : decode cL_read 145 = .ok (.aload 5, 2) := by decide +kernel
theorem dL_read_147 : decode cL_read 147 = .ok (.iload 6, 2) := by decide +kernel
theorem dL_read_149 : decode cL_read 149 = .ok (.lload 7, 2) := by decide +kernel
theorem dL_read_151 : decode cL_read 151 = .ok (.invokestatic 21, 3) := by decide +kernel
theorem dL_read_154 : decode cL_read 154 = .ok (.lload 7, 2) := by decide +kernel
theorem dL_read_156 : decode cL_read 156 = .ok (.iconst 0, 1) := by decide +kernel
theorem dL_read_157 : decode cL_read 157 = .ok (.invokestatic 15, 3) := by decide +kernel
theorem dL_read_160 : decode cL_read 160 = .ok (.lload 7, 2) := by decide +kernel
theorem dL_read_162 : decode cL_read 162 = .ok (.iconst 1, 1) := by decide +kernel
theorem dL_read_163 : decode cL_read 163 = .ok (.invokestatic 15, 3) := by decide +kernel
theorem dL_read_166 : decode cL_read 166 = .ok (.iload 9, 2) := by decide +kernel
theorem dL_read_168 : decode cL_read 168 = .ok (.iconst 0, 1) := by decide +kernel
theorem dL_read_169 : decode cL_read 169 = .ok (.invokestatic 25, 3) := by decide +kernel
theorem dL_read_172 : decode cL_read 172 = .ok (.invokestatic 29, 3) := by decide +kernel
theorem dL_read_175 : decode cL_read 175 = .ok (.iload 9, 2) := by decide +kernel
theorem dL_read_177 : decode cL_read 177 = .ok (.ireturn, 1) := by decide +kernel
theorem dL_read_178 : decode cL_read 178 = .ok (.lload 7, 2) := by decide +kernel
theorem dL_read_180 : decode cL_read 180 = .ok (.iconst 2, 1) := by decide +kernel
theorem dL_read_181 : decode cL_read 181 = .ok (.invokestatic 15, 3) := by decide +kernel
theorem dL_read_184 : decode cL_read 184 = .ok (.ireturn, 1) := by decide +kernel
set_option maxRecDepth 20000 in
theorem ggL_renames_L_at : GoodIn wsL_renames wsL_at := goodIn_r _ [4] (by decide +kernel) (by decide +kernel)
set_option maxRecDepth 20000 in
theorem gL_renames_L_at : GoodIn wsL_renames (va_wsS RL 33 yL_at wsL_at) := goodIn_app (goodIn_of _ (by decide +kernel)) ggL_renames_L_at
set_option maxRecDepth 20000 in
theorem ggL_renames_L_name : GoodIn wsL_renames wsL_name := goodIn_r _ [7, 8] (by decide +kernel) (by decide +kernel)
set_option maxRecDepth 20000 in
theorem gL_renames_L_name : GoodIn wsL_renames (va_wsS RL 15 yL_name wsL_name) := goodIn_app (goodIn_of _ (by decide +kernel)) ggL_renames_L_name
set_option maxRecDepth 20000 in
theorem ggL_renames_L_puts : GoodIn wsL_renames wsL_puts := goodIn_r _ [11] (by decide +kernel) (by decide +kernel)
set_option maxRecDepth 20000 in
theorem gL_renames_L_puts : GoodIn wsL_renames (va_wsS RL 29 yL_puts wsL_puts) := goodIn_app (goodIn_of _ (by decide +kernel)) ggL_renames_L_puts
theorem dL_renames_0 : decode cL_renames 0 = .ok (.aload_n 0, 1) := by decide +kernel
theorem dL_renames_1 : decode cL_renames 1 = .ok (.aload_n 1, 1) := by decide +kernel
theorem dL_renames_2 : decode cL_renames 2 = .ok (.aload_n 2, 1) := by decide +kernel
theorem dL_renames_3 : decode cL_renames 3 = .ok (.iload_n 3, 1) := by decide +kernel
theorem dL_renames_4 : decode cL_renames 4 = .ok (.invokestatic 33, 3) := by decide +kernel
theorem dL_renames_7 : decode cL_renames 7 = .ok (.lstore 6, 2) := by decide +kernel
theorem dL_renames_9 : decode cL_renames 9 = .ok (.aload_n 0, 1) := by decide +kernel
theorem dL_renames_10 : decode cL_renames 10 = .ok (.aload_n 1, 1) := by decide +kernel
theorem dL_renames_11 : decode cL_renames 11 = .ok (.aload_n 2, 1) := by decide +kernel
theorem dL_renames_12 : decode cL_renames 12 = .ok (.iload_n 3, 1) := by decide +kernel
theorem dL_renames_13 : decode cL_renames 13 = .ok (.lload 6, 2) := by decide +kernel
theorem dL_renames_15 : decode cL_renames 15 = .ok (.iload 5, 2) := by decide +kernel
theorem dL_renames_17 : decode cL_renames 17 = .ok (.lload 6, 2) := by decide +kernel
theorem dL_renames_19 : decode cL_renames 19 = .ok (.iload 4, 2) := by decide +kernel
theorem dL_renames_21 : decode cL_renames 21 = .ok (.invokestatic 15, 3) := by decide +kernel
theorem dL_renames_24 : decode cL_renames 24 = .ok (.isub, 1) := by decide +kernel
theorem dL_renames_25 : decode cL_renames 25 = .ok (.i2l, 1) := by decide +kernel
theorem dL_renames_26 : decode cL_renames 26 = .ok (.bipush 6, 2) := by decide +kernel
theorem dL_renames_28 : decode cL_renames 28 = .ok (.bipush 9, 2) := by decide +kernel
theorem dL_renames_30 : decode cL_renames 30 = .ok (.iload 4, 2) := by decide +kernel
theorem dL_renames_32 : decode cL_renames 32 = .ok (.imul, 1) := by decide +kernel
theorem dL_renames_33 : decode cL_renames 33 = .ok (.iadd, 1) := by decide +kernel
theorem dL_renames_34 : decode cL_renames 34 = .ok (.lshl, 1) := by decide +kernel
theorem dL_renames_35 : decode cL_renames 35 = .ok (.ladd, 1) := by decide +kernel
theorem dL_renames_36 : decode cL_renames 36 = .ok (.invokestatic 29, 3) := by decide +kernel
theorem dL_renames_39 : decode cL_renames 39 = .ok (.return_, 1) := by decide +kernel
set_option maxRecDepth 20000 in
theorem ggL_ends_L_mark : GoodIn wsL_ends wsL_mark := goodIn_r _ [5] (by decide +kernel) (by decide +kernel)
set_option maxRecDepth 20000 in
theorem gL_ends_L_mark : GoodIn wsL_ends (va_wsS RL 37 yL_mark wsL_mark) := goodIn_app (goodIn_of _ (by decide +kernel)) ggL_ends_L_mark
theorem dL_ends_0 : decode cL_ends 0 = .ok (.aload_n 0, 1) := by decide +kernel
theorem dL_ends_1 : decode cL_ends 1 = .ok (.bipush 8, 2) := by decide +kernel
theorem dL_ends_3 : decode cL_ends 3 = .ok (.iaload, 1) := by decide +kernel
theorem dL_ends_4 : decode cL_ends 4 = .ok (.ifCond .le 4, 3) := by decide +kernel
theorem dL_ends_7 : decode cL_ends 7 = .ok (.return_, 1) := by decide +kernel
theorem dL_ends_8 : decode cL_ends 8 = .ok (.iconst 0, 1) := by decide +kernel
theorem dL_ends_9 : decode cL_ends 9 = .ok (.istore 4, 2) := by decide +kernel
theorem dL_ends_11 : decode cL_ends 11 = .ok (.iload 4, 2) := by decide +kernel
theorem dL_ends_13 : decode cL_ends 13 = .ok (.bipush 64, 2) := by decide +kernel
theorem dL_ends_15 : decode cL_ends 15 = .ok (.if_icmp .ge 72, 3) := by decide +kernel
theorem dL_ends_18 : decode cL_ends 18 = .ok (.aload_n 1, 1) := by decide +kernel
theorem dL_ends_19 : decode cL_ends 19 = .ok (.iload 4, 2) := by decide +kernel
theorem dL_ends_21 : decode cL_ends 21 = .ok (.aload_n 0, 1) := by decide +kernel
theorem dL_ends_22 : decode cL_ends 22 = .ok (.iconst 3, 1) := by decide +kernel
theorem dL_ends_23 : decode cL_ends 23 = .ok (.iaload, 1) := by decide +kernel
theorem dL_ends_24 : decode cL_ends 24 = .ok (.iconst 1, 1) := by decide +kernel
theorem dL_ends_25 : decode cL_ends 25 = .ok (.if_icmp .ne 7, 3) := by decide +kernel
theorem dL_ends_28 : decode cL_ends 28 = .ok (.lconst 0, 1) := by decide +kernel
theorem dL_ends_29 : decode cL_ends 29 = .ok (.goto 7, 3) := by decide +kernel
theorem dL_ends_32 : decode cL_ends 32 = .ok (.aload_n 1, 1) := by decide +kernel
theorem dL_ends_33 : decode cL_ends 33 = .ok (.iload 4, 2) := by decide +kernel
theorem dL_ends_35 : decode cL_ends 35 = .ok (.laload, 1) := by decide +kernel
theorem dL_ends_36 : decode cL_ends 36 = .ok (.lastore, 1) := by decide +kernel
theorem dL_ends_37 : decode cL_ends 37 = .ok (.aload_n 2, 1) := by decide +kernel
theorem dL_ends_38 : decode cL_ends 38 = .ok (.iload 4, 2) := by decide +kernel
theorem dL_ends_40 : decode cL_ends 40 = .ok (.aload_n 0, 1) := by decide +kernel
theorem dL_ends_41 : decode cL_ends 41 = .ok (.iconst 3, 1) := by decide +kernel
theorem dL_ends_42 : decode cL_ends 42 = .ok (.iaload, 1) := by decide +kernel
theorem dL_ends_43 : decode cL_ends 43 = .ok (.ifCond .ne 7, 3) := by decide +kernel
theorem dL_ends_46 : decode cL_ends 46 = .ok (.lconst 0, 1) := by decide +kernel
theorem dL_ends_47 : decode cL_ends 47 = .ok (.goto 7, 3) := by decide +kernel
theorem dL_ends_50 : decode cL_ends 50 = .ok (.aload_n 2, 1) := by decide +kernel
theorem dL_ends_51 : decode cL_ends 51 = .ok (.iload 4, 2) := by decide +kernel
theorem dL_ends_53 : decode cL_ends 53 = .ok (.laload, 1) := by decide +kernel
theorem dL_ends_54 : decode cL_ends 54 = .ok (.lastore, 1) := by decide +kernel
theorem dL_ends_55 : decode cL_ends 55 = .ok (.aload_n 3, 1) := by decide +kernel
theorem dL_ends_56 : decode cL_ends 56 = .ok (.iload 4, 2) := by decide +kernel
theorem dL_ends_58 : decode cL_ends 58 = .ok (.aload_n 3, 1) := by decide +kernel
theorem dL_ends_59 : decode cL_ends 59 = .ok (.iload 4, 2) := by decide +kernel
theorem dL_ends_61 : decode cL_ends 61 = .ok (.laload, 1) := by decide +kernel
theorem dL_ends_62 : decode cL_ends 62 = .ok (.invokestatic 37, 3) := by decide +kernel
theorem dL_ends_65 : decode cL_ends 65 = .ok (.ifCond .ne 7, 3) := by decide +kernel
theorem dL_ends_68 : decode cL_ends 68 = .ok (.lconst 0, 1) := by decide +kernel
theorem dL_ends_69 : decode cL_ends 69 = .ok (.goto 11, 3) := by decide +kernel
theorem dL_ends_72 : decode cL_ends 72 = .ok (.aload_n 3, 1) := by decide +kernel
theorem dL_ends_73 : decode cL_ends 73 = .ok (.iload 4, 2) := by decide +kernel
theorem dL_ends_75 : decode cL_ends 75 = .ok (.laload, 1) := by decide +kernel
theorem dL_ends_76 : decode cL_ends 76 = .ok (.ldc2_w 46, 3) := by decide +kernel
theorem dL_ends_79 : decode cL_ends 79 = .ok (.land, 1) := by decide +kernel
theorem dL_ends_80 : decode cL_ends 80 = .ok (.lastore, 1) := by decide +kernel
theorem dL_ends_81 : decode cL_ends 81 = .ok (.iinc 4 1, 3) := by decide +kernel
theorem dL_ends_84 : decode cL_ends 84 = .ok (.goto (-73), 3) := by decide +kernel
theorem dL_ends_87 : decode cL_ends 87 = .ok (.aload_n 0, 1) := by decide +kernel
theorem dL_ends_88 : decode cL_ends 88 = .ok (.iconst 5, 1) := by decide +kernel
theorem dL_ends_89 : decode cL_ends 89 = .ok (.aload_n 0, 1) := by decide +kernel
theorem dL_ends_90 : decode cL_ends 90 = .ok (.iconst 3, 1) := by decide +kernel
theorem dL_ends_91 : decode cL_ends 91 = .ok (.iaload, 1) := by decide +kernel
theorem dL_ends_92 : decode cL_ends 92 = .ok (.isub, 1) := by decide +kernel
theorem dL_ends_93 : decode cL_ends 93 = .ok (.iconst 0, 1) := by decide +kernel
theorem dL_ends_94 : decode cL_ends 94 = .ok (.iastore, 1) := by decide +kernel
theorem dL_ends_95 : decode cL_ends 95 = .ok (.aload_n 0, 1) := by decide +kernel
theorem dL_ends_96 : decode cL_ends 96 = .ok (.iconst 2, 1) := by decide +kernel
theorem dL_ends_97 : decode cL_ends 97 = .ok (.iconst 0, 1) := by decide +kernel
theorem dL_ends_98 : decode cL_ends 98 = .ok (.iastore, 1) := by decide +kernel
theorem dL_ends_99 : decode cL_ends 99 = .ok (.aload_n 0, 1) := by decide +kernel
theorem dL_ends_100 : decode cL_ends 100 = .ok (.bipush 7, 2) := by decide +kernel
theorem dL_ends_102 : decode cL_ends 102 = .ok (.dup2, 1) := by decide +kernel
theorem dL_ends_103 : decode cL_ends 103 = .ok (.iaload, 1) := by decide +kernel
theorem dL_ends_104 : decode cL_ends 104 = .ok (.iconst 1, 1) := by decide +kernel
theorem dL_ends_105 : decode cL_ends 105 = .ok (.iadd, 1) := by decide +kernel
theorem dL_ends_106 : decode cL_ends 106 = .ok (.iastore, 1) := by decide +kernel
theorem dL_ends_107 : decode cL_ends 107 = .ok (.return_, 1) := by decide +kernel
set_option maxRecDepth 20000 in
theorem ggL_begins_L_read : GoodIn wsL_begins wsL_read := goodIn_r _ [4, 5, 6, 7, 3, 8, 9, 10, 11, 12, 13, 14, 15, 16, 17, 18, 19, 20, 21, 22, 23, 24, 25, 26, 27, 28, 29] (by decide +kernel) (by decide +kernel)
set_option maxRecDepth 20000 in
theorem gL_begins_L_read : GoodIn wsL_begins (va_wsS RL 48 yL_read wsL_read) := goodIn_app (goodIn_of _ (by decide +kernel)) ggL_begins_L_read
set_option maxRecDepth 20000 in
theorem ggL_begins_L_ends : GoodIn wsL_begins wsL_ends := goodIn_r _ [32, 33, 9, 10, 3, 11] (by decide +kernel) (by decide +kernel)
set_option maxRecDepth 20000 in
theorem gL_begins_L_ends : GoodIn wsL_begins (va_wsS RL 52 yL_ends wsL_ends) := goodIn_app (goodIn_of _ (by decide +kernel)) ggL_begins_L_ends
theorem dL_begins_0 : decode cL_begins 0 = .ok (.aload_n 0, 1) := by decide +kernel
theorem dL_begins_1 : decode cL_begins 1 = .ok (.iconst 3, 1) := by decide +kernel
theorem dL_begins_2 : decode cL_begins 2 = .ok (.iconst 1, 1) := by decide +kernel
theorem dL_begins_3 : decode cL_begins 3 = .ok (.aload_n 0, 1) := by decide +kernel
theorem dL_begins_4 : decode cL_begins 4 = .ok (.iconst 3, 1) := by decide +kernel
theorem dL_begins_5 : decode cL_begins 5 = .ok (.iaload, 1) := by decide +kernel
theorem dL_begins_6 : decode cL_begins 6 = .ok (.isub, 1) := by decide +kernel
theorem dL_begins_7 : decode cL_begins 7 = .ok (.iastore, 1) := by decide +kernel
theorem dL_begins_8 : decode cL_begins 8 = .ok (.aload_n 0, 1) := by decide +kernel
theorem dL_begins_9 : decode cL_begins 9 = .ok (.iconst 2, 1) := by decide +kernel
theorem dL_begins_10 : decode cL_begins 10 = .ok (.iconst 1, 1) := by decide +kernel
theorem dL_begins_11 : decode cL_begins 11 = .ok (.iastore, 1) := by decide +kernel
theorem dL_begins_12 : decode cL_begins 12 = .ok (.iconst 0, 1) := by decide +kernel
theorem dL_begins_13 : decode cL_begins 13 = .ok (.istore 7, 2) := by decide +kernel
theorem dL_begins_15 : decode cL_begins 15 = .ok (.iload 7, 2) := by decide +kernel
theorem dL_begins_17 : decode cL_begins 17 = .ok (.bipush 8, 2) := by decide +kernel
theorem dL_begins_19 : decode cL_begins 19 = .ok (.if_icmp .ge 29, 3) := by decide +kernel
theorem dL_begins_22 : decode cL_begins 22 = .ok (.aload_n 1, 1) := by decide +kernel
theorem dL_begins_23 : decode cL_begins 23 = .ok (.iload 7, 2) := by decide +kernel
theorem dL_begins_25 : decode cL_begins 25 = .ok (.aload_n 0, 1) := by decide +kernel
theorem dL_begins_26 : decode cL_begins 26 = .ok (.aload_n 2, 1) := by decide +kernel
theorem dL_begins_27 : decode cL_begins 27 = .ok (.aload_n 3, 1) := by decide +kernel
theorem dL_begins_28 : decode cL_begins 28 = .ok (.aload 4, 2) := by decide +kernel
theorem dL_begins_30 : decode cL_begins 30 = .ok (.aload 5, 2) := by decide +kernel
theorem dL_begins_32 : decode cL_begins 32 = .ok (.aload 6, 2) := by decide +kernel
theorem dL_begins_34 : decode cL_begins 34 = .ok (.aload_n 1, 1) := by decide +kernel
theorem dL_begins_35 : decode cL_begins 35 = .ok (.iload 7, 2) := by decide +kernel
theorem dL_begins_37 : decode cL_begins 37 = .ok (.iaload, 1) := by decide +kernel
theorem dL_begins_38 : decode cL_begins 38 = .ok (.invokestatic 48, 3) := by decide +kernel
theorem dL_begins_41 : decode cL_begins 41 = .ok (.iastore, 1) := by decide +kernel
theorem dL_begins_42 : decode cL_begins 42 = .ok (.iinc 7 1, 3) := by decide +kernel
theorem dL_begins_45 : decode cL_begins 45 = .ok (.goto (-30), 3) := by decide +kernel
theorem dL_begins_48 : decode cL_begins 48 = .ok (.aload_n 0, 1) := by decide +kernel
theorem dL_begins_49 : decode cL_begins 49 = .ok (.aload 4, 2) := by decide +kernel
theorem dL_begins_51 : decode cL_begins 51 = .ok (.aload 5, 2) := by decide +kernel
theorem dL_begins_53 : decode cL_begins 53 = .ok (.aload 6, 2) := by decide +kernel
theorem dL_begins_55 : decode cL_begins 55 = .ok (.invokestatic 52, 3) := by decide +kernel
theorem dL_begins_58 : decode cL_begins 58 = .ok (.return_, 1) := by decide +kernel
set_option maxRecDepth 20000 in
theorem ggL_step_L_at : GoodIn wsL_step wsL_at := goodIn_r _ [4] (by decide +kernel) (by decide +kernel)
set_option maxRecDepth 20000 in
theorem gL_step_L_at : GoodIn wsL_step (va_wsS RL 33 yL_at wsL_at) := goodIn_app (goodIn_of _ (by decide +kernel)) ggL_step_L_at
set_option maxRecDepth 20000 in
theorem ggL_step_L_name : GoodIn wsL_step wsL_name := goodIn_r _ [7, 8] (by decide +kernel) (by decide +kernel)
set_option maxRecDepth 20000 in
theorem gL_step_L_name : GoodIn wsL_step (va_wsS RL 15 yL_name wsL_name) := goodIn_app (goodIn_of _ (by decide +kernel)) ggL_step_L_name
set_option maxRecDepth 20000 in
theorem ggL_step_L_read : GoodIn wsL_step wsL_read := goodIn_r _ [11, 12, 1, 2, 3, 4, 13, 14, 15, 16, 17, 18, 5, 6, 7, 8, 19, 20, 21, 22, 23, 24, 25, 26, 27, 28, 29] (by decide +kernel) (by decide +kernel)
set_option maxRecDepth 20000 in
theorem gL_step_L_read : GoodIn wsL_step (va_wsS RL 48 yL_read wsL_read) := goodIn_app (goodIn_of _ (by decide +kernel)) ggL_step_L_read
set_option maxRecDepth 20000 in
theorem ggL_step_L_renames : GoodIn wsL_step wsL_renames := goodIn_r _ [32, 1, 2, 3, 4, 5, 6, 7, 8, 16, 17, 18] (by decide +kernel) (by decide +kernel)
set_option maxRecDepth 20000 in
theorem gL_step_L_renames : GoodIn wsL_step (va_wsS RL 56 yL_renames wsL_renames) := goodIn_app (goodIn_of _ (by decide +kernel)) ggL_step_L_renames
set_option maxRecDepth 20000 in
theorem ggL_step_L_ends : GoodIn wsL_step wsL_ends := goodIn_r _ [35, 36, 13, 14, 3, 15] (by decide +kernel) (by decide +kernel)
set_option maxRecDepth 20000 in
theorem gL_step_L_ends : GoodIn wsL_step (va_wsS RL 52 yL_ends wsL_ends) := goodIn_app (goodIn_of _ (by decide +kernel)) ggL_step_L_ends
theorem dL_step_0 : decode cL_step 0 = .ok (.aload_n 2, 1) := by decide +kernel
theorem dL_step_1 : decode cL_step 1 = .ok (.iconst 0, 1) := by decide +kernel
theorem dL_step_2 : decode cL_step 2 = .ok (.iaload, 1) := by decide +kernel
theorem dL_step_3 : decode cL_step 3 = .ok (.istore 6, 2) := by decide +kernel
theorem dL_step_5 : decode cL_step 5 = .ok (.aload_n 0, 1) := by decide +kernel
theorem dL_step_6 : decode cL_step 6 = .ok (.bipush 8, 2) := by decide +kernel
theorem dL_step_8 : decode cL_step 8 = .ok (.dup2, 1) := by decide +kernel
theorem dL_step_9 : decode cL_step 9 = .ok (.iaload, 1) := by decide +kernel
theorem dL_step_10 : decode cL_step 10 = .ok (.iconst 1, 1) := by decide +kernel
theorem dL_step_11 : decode cL_step 11 = .ok (.isub, 1) := by decide +kernel
theorem dL_step_12 : decode cL_step 12 = .ok (.iastore, 1) := by decide +kernel
theorem dL_step_13 : decode cL_step 13 = .ok (.iconst 0, 1) := by decide +kernel
theorem dL_step_14 : decode cL_step 14 = .ok (.istore 7, 2) := by decide +kernel
theorem dL_step_16 : decode cL_step 16 = .ok (.iload 7, 2) := by decide +kernel
theorem dL_step_18 : decode cL_step 18 = .ok (.aload_n 0, 1) := by decide +kernel
theorem dL_step_19 : decode cL_step 19 = .ok (.bipush 8, 2) := by decide +kernel
theorem dL_step_21 : decode cL_step 21 = .ok (.iaload, 1) := by decide +kernel
theorem dL_step_22 : decode cL_step 22 = .ok (.if_icmp .ge 19, 3) := by decide +kernel
theorem dL_step_25 : decode cL_step 25 = .ok (.aload_n 2, 1) := by decide +kernel
theorem dL_step_26 : decode cL_step 26 = .ok (.iload 7, 2) := by decide +kernel
theorem dL_step_28 : decode cL_step 28 = .ok (.aload_n 2, 1) := by decide +kernel
theorem dL_step_29 : decode cL_step 29 = .ok (.iload 7, 2) := by decide +kernel
theorem dL_step_31 : decode cL_step 31 = .ok (.iconst 1, 1) := by decide +kernel
theorem dL_step_32 : decode cL_step 32 = .ok (.iadd, 1) := by decide +kernel
theorem dL_step_33 : decode cL_step 33 = .ok (.iaload, 1) := by decide +kernel
theorem dL_step_34 : decode cL_step 34 = .ok (.iastore, 1) := by decide +kernel
theorem dL_step_35 : decode cL_step 35 = .ok (.iinc 7 1, 3) := by decide +kernel
theorem dL_step_38 : decode cL_step 38 = .ok (.goto (-22), 3) := by decide +kernel
theorem dL_step_41 : decode cL_step 41 = .ok (.iconst 0, 1) := by decide +kernel
theorem dL_step_42 : decode cL_step 42 = .ok (.istore 7, 2) := by decide +kernel
theorem dL_step_44 : decode cL_step 44 = .ok (.iload 7, 2) := by decide +kernel
theorem dL_step_46 : decode cL_step 46 = .ok (.iconst 2, 1) := by decide +kernel
theorem dL_step_47 : decode cL_step 47 = .ok (.if_icmp .ge 47, 3) := by decide +kernel
theorem dL_step_50 : decode cL_step 50 = .ok (.aload_n 3, 1) := by decide +kernel
theorem dL_step_51 : decode cL_step 51 = .ok (.aload 4, 2) := by decide +kernel
theorem dL_step_53 : decode cL_step 53 = .ok (.aload 5, 2) := by decide +kernel
theorem dL_step_55 : decode cL_step 55 = .ok (.iload 6, 2) := by decide +kernel
theorem dL_step_57 : decode cL_step 57 = .ok (.iload 7, 2) := by decide +kernel
theorem dL_step_59 : decode cL_step 59 = .ok (.aload_n 0, 1) := by decide +kernel
theorem dL_step_60 : decode cL_step 60 = .ok (.aload_n 1, 1) := by decide +kernel
theorem dL_step_61 : decode cL_step 61 = .ok (.aload_n 2, 1) := by decide +kernel
theorem dL_step_62 : decode cL_step 62 = .ok (.aload_n 3, 1) := by decide +kernel
theorem dL_step_63 : decode cL_step 63 = .ok (.aload 4, 2) := by decide +kernel
theorem dL_step_65 : decode cL_step 65 = .ok (.aload 5, 2) := by decide +kernel
theorem dL_step_67 : decode cL_step 67 = .ok (.aload_n 3, 1) := by decide +kernel
theorem dL_step_68 : decode cL_step 68 = .ok (.aload 4, 2) := by decide +kernel
theorem dL_step_70 : decode cL_step 70 = .ok (.aload 5, 2) := by decide +kernel
theorem dL_step_72 : decode cL_step 72 = .ok (.iload 6, 2) := by decide +kernel
theorem dL_step_74 : decode cL_step 74 = .ok (.invokestatic 33, 3) := by decide +kernel
theorem dL_step_77 : decode cL_step 77 = .ok (.iload 7, 2) := by decide +kernel
theorem dL_step_79 : decode cL_step 79 = .ok (.invokestatic 15, 3) := by decide +kernel
theorem dL_step_82 : decode cL_step 82 = .ok (.invokestatic 48, 3) := by decide +kernel
theorem dL_step_85 : decode cL_step 85 = .ok (.invokestatic 56, 3) := by decide +kernel
theorem dL_step_88 : decode cL_step 88 = .ok (.iinc 7 1, 3) := by decide +kernel
theorem dL_step_91 : decode cL_step 91 = .ok (.goto (-47), 3) := by decide +kernel
theorem dL_step_94 : decode cL_step 94 = .ok (.aload_n 0, 1) := by decide +kernel
theorem dL_step_95 : decode cL_step 95 = .ok (.aload_n 3, 1) := by decide +kernel
theorem dL_step_96 : decode cL_step 96 = .ok (.aload 4, 2) := by decide +kernel
theorem dL_step_98 : decode cL_step 98 = .ok (.aload 5, 2) := by decide +kernel
theorem dL_step_100 : decode cL_step 100 = .ok (.invokestatic 52, 3) := by decide +kernel
theorem dL_step_103 : decode cL_step 103 = .ok (.return_, 1) := by decide +kernel
set_option maxRecDepth 20000 in
theorem ggL_floor_L_thing : GoodIn wsL_floor wsL_thing := goodIn_r _ [4, 5] (by decide +kernel) (by decide +kernel)
set_option maxRecDepth 20000 in
theorem gL_floor_L_thing : GoodIn wsL_floor (va_wsS RL 21 yL_thing wsL_thing) := goodIn_app (goodIn_of _ (by decide +kernel)) ggL_floor_L_thing
theorem dL_floor_0 : decode cL_floor 0 = .ok (.lconst 0, 1) := by decide +kernel
theorem dL_floor_1 : decode cL_floor 1 = .ok (.lstore_n 3, 1) := by decide +kernel
theorem dL_floor_2 : decode cL_floor 2 = .ok (.iconst 0, 1) := by decide +kernel
theorem dL_floor_3 : decode cL_floor 3 = .ok (.istore 5, 2) := by decide +kernel
theorem dL_floor_5 : decode cL_floor 5 = .ok (.iload 5, 2) := by decide +kernel
theorem dL_floor_7 : decode cL_floor 7 = .ok (.bipush 60, 2) := by decide +kernel
theorem dL_floor_9 : decode cL_floor 9 = .ok (.if_icmp .ge 41, 3) := by decide +kernel
theorem dL_floor_12 : decode cL_floor 12 = .ok (.lload_n 3, 1) := by decide +kernel
theorem dL_floor_13 : decode cL_floor 13 = .ok (.aload_n 1, 1) := by decide +kernel
theorem dL_floor_14 : decode cL_floor 14 = .ok (.iload 5, 2) := by decide +kernel
theorem dL_floor_16 : decode cL_floor 16 = .ok (.laload, 1) := by decide +kernel
theorem dL_floor_17 : decode cL_floor 17 = .ok (.lconst 0, 1) := by decide +kernel
theorem dL_floor_18 : decode cL_floor 18 = .ok (.lcmp, 1) := by decide +kernel
theorem dL_floor_19 : decode cL_floor 19 = .ok (.ifCond .eq 22, 3) := by decide +kernel
theorem dL_floor_22 : decode cL_floor 22 = .ok (.lconst 1, 1) := by decide +kernel
theorem dL_floor_23 : decode cL_floor 23 = .ok (.aload_n 0, 1) := by decide +kernel
theorem dL_floor_24 : decode cL_floor 24 = .ok (.aload_n 1, 1) := by decide +kernel
theorem dL_floor_25 : decode cL_floor 25 = .ok (.iload 5, 2) := by decide +kernel
theorem dL_floor_27 : decode cL_floor 27 = .ok (.laload, 1) := by decide +kernel
theorem dL_floor_28 : decode cL_floor 28 = .ok (.invokestatic 21, 3) := by decide +kernel
theorem dL_floor_31 : decode cL_floor 31 = .ok (.iaload, 1) := by decide +kernel
theorem dL_floor_32 : decode cL_floor 32 = .ok (.lshl, 1) := by decide +kernel
theorem dL_floor_33 : decode cL_floor 33 = .ok (.lconst 1, 1) := by decide +kernel
theorem dL_floor_34 : decode cL_floor 34 = .ok (.lsub, 1) := by decide +kernel
theorem dL_floor_35 : decode cL_floor 35 = .ok (.iload 5, 2) := by decide +kernel
theorem dL_floor_37 : decode cL_floor 37 = .ok (.lshl, 1) := by decide +kernel
theorem dL_floor_38 : decode cL_floor 38 = .ok (.goto 4, 3) := by decide +kernel
theorem dL_floor_41 : decode cL_floor 41 = .ok (.lconst 0, 1) := by decide +kernel
theorem dL_floor_42 : decode cL_floor 42 = .ok (.lor, 1) := by decide +kernel
theorem dL_floor_43 : decode cL_floor 43 = .ok (.lstore_n 3, 1) := by decide +kernel
theorem dL_floor_44 : decode cL_floor 44 = .ok (.iinc 5 1, 3) := by decide +kernel
theorem dL_floor_47 : decode cL_floor 47 = .ok (.goto (-42), 3) := by decide +kernel
theorem dL_floor_50 : decode cL_floor 50 = .ok (.iconst 0, 1) := by decide +kernel
theorem dL_floor_51 : decode cL_floor 51 = .ok (.istore 5, 2) := by decide +kernel
theorem dL_floor_53 : decode cL_floor 53 = .ok (.iload 5, 2) := by decide +kernel
theorem dL_floor_55 : decode cL_floor 55 = .ok (.iload_n 2, 1) := by decide +kernel
theorem dL_floor_56 : decode cL_floor 56 = .ok (.iadd, 1) := by decide +kernel
theorem dL_floor_57 : decode cL_floor 57 = .ok (.bipush 60, 2) := by decide +kernel
theorem dL_floor_59 : decode cL_floor 59 = .ok (.if_icmp .gt 27, 3) := by decide +kernel
theorem dL_floor_62 : decode cL_floor 62 = .ok (.lload_n 3, 1) := by decide +kernel
theorem dL_floor_63 : decode cL_floor 63 = .ok (.iload 5, 2) := by decide +kernel
theorem dL_floor_65 : decode cL_floor 65 = .ok (.lshr, 1) := by decide +kernel
theorem dL_floor_66 : decode cL_floor 66 = .ok (.lconst 1, 1) := by decide +kernel
theorem dL_floor_67 : decode cL_floor 67 = .ok (.iload_n 2, 1) := by decide +kernel
theorem dL_floor_68 : decode cL_floor 68 = .ok (.lshl, 1) := by decide +kernel
theorem dL_floor_69 : decode cL_floor 69 = .ok (.lconst 1, 1) := by decide +kernel
theorem dL_floor_70 : decode cL_floor 70 = .ok (.lsub, 1) := by decide +kernel
theorem dL_floor_71 : decode cL_floor 71 = .ok (.land, 1) := by decide +kernel
theorem dL_floor_72 : decode cL_floor 72 = .ok (.lconst 0, 1) := by decide +kernel
theorem dL_floor_73 : decode cL_floor 73 = .ok (.lcmp, 1) := by decide +kernel
theorem dL_floor_74 : decode cL_floor 74 = .ok (.ifCond .ne 6, 3) := by decide +kernel
theorem dL_floor_77 : decode cL_floor 77 = .ok (.iload 5, 2) := by decide +kernel
theorem dL_floor_79 : decode cL_floor 79 = .ok (.ireturn, 1) := by decide +kernel
theorem dL_floor_80 : decode cL_floor 80 = .ok (.iinc 5 1, 3) := by decide +kernel
theorem dL_floor_83 : decode cL_floor 83 = .ok (.goto (-30), 3) := by decide +kernel
theorem dL_floor_86 : decode cL_floor 86 = .ok (.iconst (-1), 1) := by decide +kernel
theorem dL_floor_87 : decode cL_floor 87 = .ok (.ireturn, 1) := by decide +kernel
set_option maxRecDepth 20000 in
theorem ggL_makes_L_floor : GoodIn wsL_makes wsL_floor := goodIn_r _ [4, 5, 6, 3, 7, 8] (by decide +kernel) (by decide +kernel)
set_option maxRecDepth 20000 in
theorem gL_makes_L_floor : GoodIn wsL_makes (va_wsS RL 60 yL_floor wsL_floor) := goodIn_app (goodIn_of _ (by decide +kernel)) ggL_makes_L_floor
set_option maxRecDepth 20000 in
theorem ggL_makes_L_kept : GoodIn wsL_makes wsL_kept := goodIn_r _ [11, 12, 13, 3, 14, 15, 5, 6, 7, 8] (by decide +kernel) (by decide +kernel)
set_option maxRecDepth 20000 in
theorem gL_makes_L_kept : GoodIn wsL_makes (va_wsS RL 64 yL_kept wsL_kept) := goodIn_app (goodIn_of _ (by decide +kernel)) ggL_makes_L_kept
set_option maxRecDepth 20000 in
theorem ggL_makes_X7_make : GoodIn wsL_makes wsX7_make := goodIn_r _ [20, 21, 22, 23, 24, 25, 26, 27, 28, 29, 30, 31, 32, 33, 34, 35, 36, 37, 38, 39, 40, 41, 42, 43, 44, 45, 46, 47, 48, 49, 50, 51, 52, 53, 54, 55, 56, 57, 58, 59, 60, 61, 62, 63, 64, 65, 66, 67, 68, 69, 70, 71, 72, 73, 74, 75, 76, 77, 78, 79, 80, 81, 82, 19, 83, 84, 85, 86, 87, 88, 89, 90, 91, 92, 93, 94, 95, 96, 97, 98, 99, 100, 101, 102, 103, 104, 105, 106, 107, 108, 109, 110, 111, 112, 113, 114, 115, 116, 117, 118, 119, 120, 121, 122, 123, 124, 125, 126, 127, 128, 129, 130, 131, 132, 143, 144, 145, 146, 147, 148, 149, 150, 151, 152, 153, 154, 155, 156, 157, 158, 159, 160, 161, 162, 163, 164, 165, 166, 167, 168, 169] (by decide +kernel) (by decide +kernel)
set_option maxRecDepth 20000 in
theorem gL_makes_X7_make : GoodIn wsL_makes (wsV RL 68 RX7 yX7_make wsX7_make) := goodIn_app (goodIn_of _ (by decide +kernel)) ggL_makes_X7_make
set_option maxRecDepth 20000 in
theorem ggL_makes_L_pack : GoodIn wsL_makes wsL_pack := goodIn_r _ [135, 136] (by decide +kernel) (by decide +kernel)
set_option maxRecDepth 20000 in
theorem gL_makes_L_pack : GoodIn wsL_makes (va_wsS RL 25 yL_pack wsL_pack) := goodIn_app (goodIn_of _ (by decide +kernel)) ggL_makes_L_pack
set_option maxRecDepth 20000 in
theorem ggL_makes_L_lays : GoodIn wsL_makes wsL_lays := goodIn_r _ [139, 133, 134, 3, 135, 136, 140, 141, 142] (by decide +kernel) (by decide +kernel)
set_option maxRecDepth 20000 in
theorem gL_makes_L_lays : GoodIn wsL_makes (va_wsS RL 42 yL_lays wsL_lays) := goodIn_app (goodIn_of _ (by decide +kernel)) ggL_makes_L_lays
theorem dL_makes_0 : decode cL_makes 0 = .ok (.iload 7, 2) := by decide +kernel
theorem dL_makes_2 : decode cL_makes 2 = .ok (.iconst 5, 1) := by decide +kernel
theorem dL_makes_3 : decode cL_makes 3 = .ok (.irem, 1) := by decide +kernel
theorem dL_makes_4 : decode cL_makes 4 = .ok (.ifCond .le 14, 3) := by decide +kernel
theorem dL_makes_7 : decode cL_makes 7 = .ok (.iconst 1, 1) := by decide +kernel
theorem dL_makes_8 : decode cL_makes 8 = .ok (.iload 7, 2) := by decide +kernel
theorem dL_makes_10 : decode cL_makes 10 = .ok (.iconst 5, 1) := by decide +kernel
theorem dL_makes_11 : decode cL_makes 11 = .ok (.idiv, 1) := by decide +kernel
theorem dL_makes_12 : decode cL_makes 12 = .ok (.iconst 4, 1) := by decide +kernel
theorem dL_makes_13 : decode cL_makes 13 = .ok (.irem, 1) := by decide +kernel
theorem dL_makes_14 : decode cL_makes 14 = .ok (.iadd, 1) := by decide +kernel
theorem dL_makes_15 : decode cL_makes 15 = .ok (.goto 12, 3) := by decide +kernel
theorem dL_makes_18 : decode cL_makes 18 = .ok (.iconst 1, 1) := by decide +kernel
theorem dL_makes_19 : decode cL_makes 19 = .ok (.iload 7, 2) := by decide +kernel
theorem dL_makes_21 : decode cL_makes 21 = .ok (.iconst 5, 1) := by decide +kernel
theorem dL_makes_22 : decode cL_makes 22 = .ok (.idiv, 1) := by decide +kernel
theorem dL_makes_23 : decode cL_makes 23 = .ok (.bipush 12, 2) := by decide +kernel
theorem dL_makes_25 : decode cL_makes 25 = .ok (.irem, 1) := by decide +kernel
theorem dL_makes_26 : decode cL_makes 26 = .ok (.iadd, 1) := by decide +kernel
theorem dL_makes_27 : decode cL_makes 27 = .ok (.istore 8, 2) := by decide +kernel
theorem dL_makes_29 : decode cL_makes 29 = .ok (.iload 7, 2) := by decide +kernel
theorem dL_makes_31 : decode cL_makes 31 = .ok (.bipush 60, 2) := by decide +kernel
theorem dL_makes_33 : decode cL_makes 33 = .ok (.idiv, 1) := by decide +kernel
theorem dL_makes_34 : decode cL_makes 34 = .ok (.bipush 8, 2) := by decide +kernel
theorem dL_makes_36 : decode cL_makes 36 = .ok (.irem, 1) := by decide +kernel
theorem dL_makes_37 : decode cL_makes 37 = .ok (.istore 9, 2) := by decide +kernel
theorem dL_makes_39 : decode cL_makes 39 = .ok (.iload 8, 2) := by decide +kernel
theorem dL_makes_41 : decode cL_makes 41 = .ok (.aload_n 1, 1) := by decide +kernel
theorem dL_makes_42 : decode cL_makes 42 = .ok (.iconst 1, 1) := by decide +kernel
theorem dL_makes_43 : decode cL_makes 43 = .ok (.iaload, 1) := by decide +kernel
theorem dL_makes_44 : decode cL_makes 44 = .ok (.if_icmp .lt 7, 3) := by decide +kernel
theorem dL_makes_47 : decode cL_makes 47 = .ok (.iconst 1, 1) := by decide +kernel
theorem dL_makes_48 : decode cL_makes 48 = .ok (.goto 4, 3) := by decide +kernel
theorem dL_makes_51 : decode cL_makes 51 = .ok (.iconst 0, 1) := by decide +kernel
theorem dL_makes_52 : decode cL_makes 52 = .ok (.istore 10, 2) := by decide +kernel
theorem dL_makes_54 : decode cL_makes 54 = .ok (.iload 10, 2) := by decide +kernel
theorem dL_makes_56 : decode cL_makes 56 = .ok (.ifCond .eq 14, 3) := by decide +kernel
theorem dL_makes_59 : decode cL_makes 59 = .ok (.aload_n 3, 1) := by decide +kernel
theorem dL_makes_60 : decode cL_makes 60 = .ok (.aload 6, 2) := by decide +kernel
theorem dL_makes_62 : decode cL_makes 62 = .ok (.iload 8, 2) := by decide +kernel
theorem dL_makes_64 : decode cL_makes 64 = .ok (.invokestatic 60, 3) := by decide +kernel
theorem dL_makes_67 : decode cL_makes 67 = .ok (.goto 26, 3) := by decide +kernel
theorem dL_makes_70 : decode cL_makes 70 = .ok (.bipush 64, 2) := by decide +kernel
theorem dL_makes_72 : decode cL_makes 72 = .ok (.aload_n 1, 1) := by decide +kernel
theorem dL_makes_73 : decode cL_makes 73 = .ok (.iconst 4, 1) := by decide +kernel
theorem dL_makes_74 : decode cL_makes 74 = .ok (.aload_n 1, 1) := by decide +kernel
theorem dL_makes_75 : decode cL_makes 75 = .ok (.iconst 3, 1) := by decide +kernel
theorem dL_makes_76 : decode cL_makes 76 = .ok (.iaload, 1) := by decide +kernel
theorem dL_makes_77 : decode cL_makes 77 = .ok (.iadd, 1) := by decide +kernel
theorem dL_makes_78 : decode cL_makes 78 = .ok (.iaload, 1) := by decide +kernel
theorem dL_makes_79 : decode cL_makes 79 = .ok (.isub, 1) := by decide +kernel
theorem dL_makes_80 : decode cL_makes 80 = .ok (.aload_n 1, 1) := by decide +kernel
theorem dL_makes_81 : decode cL_makes 81 = .ok (.aload_n 3, 1) := by decide +kernel
theorem dL_makes_82 : decode cL_makes 82 = .ok (.aload 4, 2) := by decide +kernel
theorem dL_makes_84 : decode cL_makes 84 = .ok (.aload 5, 2) := by decide +kernel
theorem dL_makes_86 : decode cL_makes 86 = .ok (.invokestatic 64, 3) := by decide +kernel
theorem dL_makes_89 : decode cL_makes 89 = .ok (.isub, 1) := by decide +kernel
theorem dL_makes_90 : decode cL_makes 90 = .ok (.iload 8, 2) := by decide +kernel
theorem dL_makes_92 : decode cL_makes 92 = .ok (.isub, 1) := by decide +kernel
theorem dL_makes_93 : decode cL_makes 93 = .ok (.istore 11, 2) := by decide +kernel
theorem dL_makes_95 : decode cL_makes 95 = .ok (.aload_n 1, 1) := by decide +kernel
theorem dL_makes_96 : decode cL_makes 96 = .ok (.iconst 0, 1) := by decide +kernel
theorem dL_makes_97 : decode cL_makes 97 = .ok (.iaload, 1) := by decide +kernel
theorem dL_makes_98 : decode cL_makes 98 = .ok (.bipush 40, 2) := by decide +kernel
theorem dL_makes_100 : decode cL_makes 100 = .ok (.if_icmp .eq 8, 3) := by decide +kernel
theorem dL_makes_103 : decode cL_makes 103 = .ok (.iload 11, 2) := by decide +kernel
theorem dL_makes_105 : decode cL_makes 105 = .ok (.ifCond .ge 22, 3) := by decide +kernel
theorem dL_makes_108 : decode cL_makes 108 = .ok (.aload_n 0, 1) := by decide +kernel
theorem dL_makes_109 : decode cL_makes 109 = .ok (.iload 8, 2) := by decide +kernel
theorem dL_makes_111 : decode cL_makes 111 = .ok (.iload 9, 2) := by decide +kernel
theorem dL_makes_113 : decode cL_makes 113 = .ok (.invokevirtual 68, 3) := by decide +kernel
theorem dL_makes_116 : decode cL_makes 116 = .ok (.bipush (-3), 2) := by decide +kernel
theorem dL_makes_118 : decode cL_makes 118 = .ok (.if_icmp .ne 7, 3) := by decide +kernel
theorem dL_makes_121 : decode cL_makes 121 = .ok (.iconst 1, 1) := by decide +kernel
theorem dL_makes_122 : decode cL_makes 122 = .ok (.goto 4, 3) := by decide +kernel
theorem dL_makes_125 : decode cL_makes 125 = .ok (.iconst 0, 1) := by decide +kernel
theorem dL_makes_126 : decode cL_makes 126 = .ok (.ireturn, 1) := by decide +kernel
theorem dL_makes_127 : decode cL_makes 127 = .ok (.aload_n 3, 1) := by decide +kernel
theorem dL_makes_128 : decode cL_makes 128 = .ok (.aload_n 1, 1) := by decide +kernel
theorem dL_makes_129 : decode cL_makes 129 = .ok (.iconst 0, 1) := by decide +kernel
theorem dL_makes_130 : decode cL_makes 130 = .ok (.iaload, 1) := by decide +kernel
theorem dL_makes_131 : decode cL_makes 131 = .ok (.iload 8, 2) := by decide +kernel
theorem dL_makes_133 : decode cL_makes 133 = .ok (.iastore, 1) := by decide +kernel
theorem dL_makes_134 : decode cL_makes 134 = .ok (.iload 10, 2) := by decide +kernel
theorem dL_makes_136 : decode cL_makes 136 = .ok (.ifCond .eq 36, 3) := by decide +kernel
theorem dL_makes_139 : decode cL_makes 139 = .ok (.aload 6, 2) := by decide +kernel
theorem dL_makes_141 : decode cL_makes 141 = .ok (.iload 11, 2) := by decide +kernel
theorem dL_makes_143 : decode cL_makes 143 = .ok (.aload_n 1, 1) := by decide +kernel
theorem dL_makes_144 : decode cL_makes 144 = .ok (.iconst 0, 1) := by decide +kernel
theorem dL_makes_145 : decode cL_makes 145 = .ok (.iaload, 1) := by decide +kernel
theorem dL_makes_146 : decode cL_makes 146 = .ok (.bipush (-9), 2) := by decide +kernel
theorem dL_makes_148 : decode cL_makes 148 = .ok (.bipush (-9), 2) := by decide +kernel
theorem dL_makes_150 : decode cL_makes 150 = .ok (.bipush (-9), 2) := by decide +kernel
theorem dL_makes_152 : decode cL_makes 152 = .ok (.aload_n 1, 1) := by decide +kernel
theorem dL_makes_153 : decode cL_makes 153 = .ok (.iconst 2, 1) := by decide +kernel
theorem dL_makes_154 : decode cL_makes 154 = .ok (.iaload, 1) := by decide +kernel
theorem dL_makes_155 : decode cL_makes 155 = .ok (.invokestatic 25, 3) := by decide +kernel
theorem dL_makes_158 : decode cL_makes 158 = .ok (.lastore, 1) := by decide +kernel
theorem dL_makes_159 : decode cL_makes 159 = .ok (.aload_n 2, 1) := by decide +kernel
theorem dL_makes_160 : decode cL_makes 160 = .ok (.iload 9, 2) := by decide +kernel
theorem dL_makes_162 : decode cL_makes 162 = .ok (.sipush 200, 3) := by decide +kernel
theorem dL_makes_165 : decode cL_makes 165 = .ok (.iload 11, 2) := by decide +kernel
theorem dL_makes_167 : decode cL_makes 167 = .ok (.iadd, 1) := by decide +kernel
theorem dL_makes_168 : decode cL_makes 168 = .ok (.iastore, 1) := by decide +kernel
theorem dL_makes_169 : decode cL_makes 169 = .ok (.goto 25, 3) := by decide +kernel
theorem dL_makes_172 : decode cL_makes 172 = .ok (.aload_n 2, 1) := by decide +kernel
theorem dL_makes_173 : decode cL_makes 173 = .ok (.iload 9, 2) := by decide +kernel
theorem dL_makes_175 : decode cL_makes 175 = .ok (.aload_n 1, 1) := by decide +kernel
theorem dL_makes_176 : decode cL_makes 176 = .ok (.aload_n 3, 1) := by decide +kernel
theorem dL_makes_177 : decode cL_makes 177 = .ok (.aload 4, 2) := by decide +kernel
theorem dL_makes_179 : decode cL_makes 179 = .ok (.aload 5, 2) := by decide +kernel
theorem dL_makes_181 : decode cL_makes 181 = .ok (.aload 6, 2) := by decide +kernel
theorem dL_makes_183 : decode cL_makes 183 = .ok (.aload_n 1, 1) := by decide +kernel
theorem dL_makes_184 : decode cL_makes 184 = .ok (.iconst 0, 1) := by decide +kernel
theorem dL_makes_185 : decode cL_makes 185 = .ok (.iaload, 1) := by decide +kernel
theorem dL_makes_186 : decode cL_makes 186 = .ok (.bipush (-9), 2) := by decide +kernel
theorem dL_makes_188 : decode cL_makes 188 = .ok (.bipush (-9), 2) := by decide +kernel
theorem dL_makes_190 : decode cL_makes 190 = .ok (.invokestatic 42, 3) := by decide +kernel
theorem dL_makes_193 : decode cL_makes 193 = .ok (.iastore, 1) := by decide +kernel
theorem dL_makes_194 : decode cL_makes 194 = .ok (.aload_n 1, 1) := by decide +kernel
theorem dL_makes_195 : decode cL_makes 195 = .ok (.iconst 0, 1) := by decide +kernel
theorem dL_makes_196 : decode cL_makes 196 = .ok (.dup2, 1) := by decide +kernel
theorem dL_makes_197 : decode cL_makes 197 = .ok (.iaload, 1) := by decide +kernel
theorem dL_makes_198 : decode cL_makes 198 = .ok (.iconst 1, 1) := by decide +kernel
theorem dL_makes_199 : decode cL_makes 199 = .ok (.iadd, 1) := by decide +kernel
theorem dL_makes_200 : decode cL_makes 200 = .ok (.iastore, 1) := by decide +kernel
theorem dL_makes_201 : decode cL_makes 201 = .ok (.aload_n 0, 1) := by decide +kernel
theorem dL_makes_202 : decode cL_makes 202 = .ok (.iload 8, 2) := by decide +kernel
theorem dL_makes_204 : decode cL_makes 204 = .ok (.iload 9, 2) := by decide +kernel
theorem dL_makes_206 : decode cL_makes 206 = .ok (.invokevirtual 68, 3) := by decide +kernel
theorem dL_makes_209 : decode cL_makes 209 = .ok (.aload_n 1, 1) := by decide +kernel
theorem dL_makes_210 : decode cL_makes 210 = .ok (.iconst 0, 1) := by decide +kernel
theorem dL_makes_211 : decode cL_makes 211 = .ok (.iaload, 1) := by decide +kernel
theorem dL_makes_212 : decode cL_makes 212 = .ok (.iconst 1, 1) := by decide +kernel
theorem dL_makes_213 : decode cL_makes 213 = .ok (.isub, 1) := by decide +kernel
theorem dL_makes_214 : decode cL_makes 214 = .ok (.if_icmp .ne 7, 3) := by decide +kernel
theorem dL_makes_217 : decode cL_makes 217 = .ok (.iconst 1, 1) := by decide +kernel
theorem dL_makes_218 : decode cL_makes 218 = .ok (.goto 4, 3) := by decide +kernel
theorem dL_makes_221 : decode cL_makes 221 = .ok (.iconst 0, 1) := by decide +kernel
theorem dL_makes_222 : decode cL_makes 222 = .ok (.ireturn, 1) := by decide +kernel
set_option maxRecDepth 20000 in
theorem ggL_names_X7_link : GoodIn wsL_names wsX7_link := goodIn_r _ [5, 6, 7, 8, 9, 10, 11, 12, 13, 14, 15, 16, 17, 18, 19, 20, 21, 22, 23, 24, 25, 26, 27, 28, 29, 30, 31, 32, 33, 34, 35, 36, 37, 38, 39, 40, 41, 42, 43, 44, 45, 46, 47, 48, 49, 50, 51, 52, 53, 54, 55, 56, 57, 58, 59, 60, 61, 62, 63, 64, 65, 66, 67, 4, 68, 69, 70, 71, 72, 73, 74, 75, 76, 77, 78, 79, 80, 81, 82, 83, 84, 85, 86, 87, 88, 89, 90, 91, 92, 93, 94, 95, 96, 97, 98, 99, 100, 101, 102, 103, 104, 105, 106, 107, 108, 109, 110, 111, 112, 113, 114, 115, 116, 117, 118, 119, 120, 121, 122, 123, 124, 125, 126, 167, 168, 169, 170, 171, 172, 173, 174, 175, 176, 177, 178, 179, 180, 181, 182, 183, 184, 185, 186, 187, 188, 189, 190, 191, 192, 193] (by decide +kernel) (by decide +kernel)
set_option maxRecDepth 20000 in
theorem gL_names_X7_link : GoodIn wsL_names (wsV RL 74 RX7 yX7_link wsX7_link) := goodIn_app (goodIn_of _ (by decide +kernel)) ggL_names_X7_link
set_option maxRecDepth 20000 in
theorem ggL_names_X7_follow : GoodIn wsL_names wsX7_follow := goodIn_r _ [130, 6, 7, 8, 9, 10, 11, 12, 13, 14, 15, 16, 17, 18, 19, 20, 21, 22, 23, 24, 25, 26, 27, 28, 29, 30, 31, 32, 33, 34, 35, 36, 37, 38, 39, 40, 41, 42, 43, 44, 45, 46, 47, 48, 49, 50, 51, 52, 53, 54, 55, 56, 57, 58, 59, 60, 61, 62, 131, 132, 133, 134, 67, 4, 68, 69, 70, 71, 72, 73, 74, 75, 76, 77, 78, 79, 80, 81, 82, 83, 84, 85, 86, 87, 88, 89, 90, 91, 92, 93, 94, 95, 96, 97, 98, 99, 100, 101, 102, 103, 104, 105, 106, 107, 108, 109, 110, 111, 112, 113, 114, 119, 120, 121, 122, 123, 124, 125, 126, 167, 168, 169, 170, 171, 172, 173, 174, 175, 176, 177, 178, 179, 180, 181, 182, 183, 184, 185, 186, 187, 188, 189, 190, 191, 192, 193] (by decide +kernel) (by decide +kernel)
set_option maxRecDepth 20000 in
theorem gL_names_X7_follow : GoodIn wsL_names (wsV RL 78 RX7 yX7_follow wsX7_follow) := goodIn_app (goodIn_of _ (by decide +kernel)) ggL_names_X7_follow
set_option maxRecDepth 20000 in
theorem ggL_names_L_read : GoodIn wsL_names wsL_read := goodIn_r _ [138, 139, 140, 141, 137, 142, 143, 144, 145, 146, 147, 148, 149, 150, 151, 152, 153, 154, 155, 156, 157, 158, 159, 160, 161, 162, 163] (by decide +kernel) (by decide +kernel)
set_option maxRecDepth 20000 in
theorem gL_names_L_read : GoodIn wsL_names (va_wsS RL 48 yL_read wsL_read) := goodIn_app (goodIn_of _ (by decide +kernel)) ggL_names_L_read
set_option maxRecDepth 20000 in
theorem ggL_names_L_renames : GoodIn wsL_names wsL_renames := goodIn_r _ [166, 140, 141, 137, 142, 149, 150, 151, 152, 146, 147, 148] (by decide +kernel) (by decide +kernel)
set_option maxRecDepth 20000 in
theorem gL_names_L_renames : GoodIn wsL_names (va_wsS RL 56 yL_renames wsL_renames) := goodIn_app (goodIn_of _ (by decide +kernel)) ggL_names_L_renames
set_option maxRecDepth 20000 in
theorem ggL_names_L_at : GoodIn wsL_names wsL_at := goodIn_r _ [142] (by decide +kernel) (by decide +kernel)
set_option maxRecDepth 20000 in
theorem gL_names_L_at : GoodIn wsL_names (va_wsS RL 33 yL_at wsL_at) := goodIn_app (goodIn_of _ (by decide +kernel)) ggL_names_L_at
set_option maxRecDepth 20000 in
theorem ggL_names_L_name : GoodIn wsL_names wsL_name := goodIn_r _ [151, 152] (by decide +kernel) (by decide +kernel)
set_option maxRecDepth 20000 in
theorem gL_names_L_name : GoodIn wsL_names (va_wsS RL 15 yL_name wsL_name) := goodIn_app (goodIn_of _ (by decide +kernel)) ggL_names_L_name
theorem dL_names_0 : decode cL_names 0 = .ok (.iload 8, 2) := by decide +kernel
theorem dL_names_2 : decode cL_names 2 = .ok (.bipush 8, 2) := by decide +kernel
theorem dL_names_4 : decode cL_names 4 = .ok (.irem, 1) := by decide +kernel
theorem dL_names_5 : decode cL_names 5 = .ok (.istore 10, 2) := by decide +kernel
theorem dL_names_7 : decode cL_names 7 = .ok (.iload 8, 2) := by decide +kernel
theorem dL_names_9 : decode cL_names 9 = .ok (.bipush 8, 2) := by decide +kernel
theorem dL_names_11 : decode cL_names 11 = .ok (.idiv, 1) := by decide +kernel
theorem dL_names_12 : decode cL_names 12 = .ok (.iconst 2, 1) := by decide +kernel
theorem dL_names_13 : decode cL_names 13 = .ok (.irem, 1) := by decide +kernel
theorem dL_names_14 : decode cL_names 14 = .ok (.istore 11, 2) := by decide +kernel
theorem dL_names_16 : decode cL_names 16 = .ok (.iload 8, 2) := by decide +kernel
theorem dL_names_18 : decode cL_names 18 = .ok (.bipush 16, 2) := by decide +kernel
theorem dL_names_20 : decode cL_names 20 = .ok (.idiv, 1) := by decide +kernel
theorem dL_names_21 : decode cL_names 21 = .ok (.bipush 8, 2) := by decide +kernel
theorem dL_names_23 : decode cL_names 23 = .ok (.irem, 1) := by decide +kernel
theorem dL_names_24 : decode cL_names 24 = .ok (.istore 12, 2) := by decide +kernel
theorem dL_names_26 : decode cL_names 26 = .ok (.aload_n 2, 1) := by decide +kernel
theorem dL_names_27 : decode cL_names 27 = .ok (.iload 10, 2) := by decide +kernel
theorem dL_names_29 : decode cL_names 29 = .ok (.iaload, 1) := by decide +kernel
theorem dL_names_30 : decode cL_names 30 = .ok (.ifCond .ge 42, 3) := by decide +kernel
theorem dL_names_33 : decode cL_names 33 = .ok (.iload 9, 2) := by decide +kernel
theorem dL_names_35 : decode cL_names 35 = .ok (.ifCond .eq 16, 3) := by decide +kernel
theorem dL_names_38 : decode cL_names 38 = .ok (.aload_n 0, 1) := by decide +kernel
theorem dL_names_39 : decode cL_names 39 = .ok (.iload 10, 2) := by decide +kernel
theorem dL_names_41 : decode cL_names 41 = .ok (.iload 11, 2) := by decide +kernel
theorem dL_names_43 : decode cL_names 43 = .ok (.iload 12, 2) := by decide +kernel
theorem dL_names_45 : decode cL_names 45 = .ok (.invokevirtual 74, 3) := by decide +kernel
theorem dL_names_48 : decode cL_names 48 = .ok (.goto 13, 3) := by decide +kernel
theorem dL_names_51 : decode cL_names 51 = .ok (.aload_n 0, 1) := by decide +kernel
theorem dL_names_52 : decode cL_names 52 = .ok (.iload 10, 2) := by decide +kernel
theorem dL_names_54 : decode cL_names 54 = .ok (.iload 11, 2) := by decide +kernel
theorem dL_names_56 : decode cL_names 56 = .ok (.iload 12, 2) := by decide +kernel
theorem dL_names_58 : decode cL_names 58 = .ok (.invokevirtual 78, 3) := by decide +kernel
theorem dL_names_61 : decode cL_names 61 = .ok (.bipush (-2), 2) := by decide +kernel
theorem dL_names_63 : decode cL_names 63 = .ok (.if_icmp .ne 7, 3) := by decide +kernel
theorem dL_names_66 : decode cL_names 66 = .ok (.iconst 1, 1) := by decide +kernel
theorem dL_names_67 : decode cL_names 67 = .ok (.goto 4, 3) := by decide +kernel
theorem dL_names_70 : decode cL_names 70 = .ok (.iconst 0, 1) := by decide +kernel
theorem dL_names_71 : decode cL_names 71 = .ok (.ireturn, 1) := by decide +kernel
theorem dL_names_72 : decode cL_names 72 = .ok (.aload_n 2, 1) := by decide +kernel
theorem dL_names_73 : decode cL_names 73 = .ok (.iload 10, 2) := by decide +kernel
theorem dL_names_75 : decode cL_names 75 = .ok (.aload_n 1, 1) := by decide +kernel
theorem dL_names_76 : decode cL_names 76 = .ok (.aload_n 3, 1) := by decide +kernel
theorem dL_names_77 : decode cL_names 77 = .ok (.aload 4, 2) := by decide +kernel
theorem dL_names_79 : decode cL_names 79 = .ok (.aload 5, 2) := by decide +kernel
theorem dL_names_81 : decode cL_names 81 = .ok (.aload 6, 2) := by decide +kernel
theorem dL_names_83 : decode cL_names 83 = .ok (.aload 7, 2) := by decide +kernel
theorem dL_names_85 : decode cL_names 85 = .ok (.aload_n 2, 1) := by decide +kernel
theorem dL_names_86 : decode cL_names 86 = .ok (.iload 10, 2) := by decide +kernel
theorem dL_names_88 : decode cL_names 88 = .ok (.iaload, 1) := by decide +kernel
theorem dL_names_89 : decode cL_names 89 = .ok (.invokestatic 48, 3) := by decide +kernel
theorem dL_names_92 : decode cL_names 92 = .ok (.iastore, 1) := by decide +kernel
theorem dL_names_93 : decode cL_names 93 = .ok (.aload_n 2, 1) := by decide +kernel
theorem dL_names_94 : decode cL_names 94 = .ok (.iload 10, 2) := by decide +kernel
theorem dL_names_96 : decode cL_names 96 = .ok (.iaload, 1) := by decide +kernel
theorem dL_names_97 : decode cL_names 97 = .ok (.istore 13, 2) := by decide +kernel
theorem dL_names_99 : decode cL_names 99 = .ok (.iload 9, 2) := by decide +kernel
theorem dL_names_101 : decode cL_names 101 = .ok (.ifCond .eq 77, 3) := by decide +kernel
theorem dL_names_104 : decode cL_names 104 = .ok (.aload_n 2, 1) := by decide +kernel
theorem dL_names_105 : decode cL_names 105 = .ok (.iload 12, 2) := by decide +kernel
theorem dL_names_107 : decode cL_names 107 = .ok (.aload_n 1, 1) := by decide +kernel
theorem dL_names_108 : decode cL_names 108 = .ok (.aload_n 3, 1) := by decide +kernel
theorem dL_names_109 : decode cL_names 109 = .ok (.aload 4, 2) := by decide +kernel
theorem dL_names_111 : decode cL_names 111 = .ok (.aload 5, 2) := by decide +kernel
theorem dL_names_113 : decode cL_names 113 = .ok (.aload 6, 2) := by decide +kernel
theorem dL_names_115 : decode cL_names 115 = .ok (.aload 7, 2) := by decide +kernel
theorem dL_names_117 : decode cL_names 117 = .ok (.aload_n 2, 1) := by decide +kernel
theorem dL_names_118 : decode cL_names 118 = .ok (.iload 12, 2) := by decide +kernel
theorem dL_names_120 : decode cL_names 120 = .ok (.iaload, 1) := by decide +kernel
theorem dL_names_121 : decode cL_names 121 = .ok (.invokestatic 48, 3) := by decide +kernel
theorem dL_names_124 : decode cL_names 124 = .ok (.iastore, 1) := by decide +kernel
theorem dL_names_125 : decode cL_names 125 = .ok (.aload 5, 2) := by decide +kernel
theorem dL_names_127 : decode cL_names 127 = .ok (.aload 6, 2) := by decide +kernel
theorem dL_names_129 : decode cL_names 129 = .ok (.aload 7, 2) := by decide +kernel
theorem dL_names_131 : decode cL_names 131 = .ok (.iload 13, 2) := by decide +kernel
theorem dL_names_133 : decode cL_names 133 = .ok (.iload 11, 2) := by decide +kernel
theorem dL_names_135 : decode cL_names 135 = .ok (.aload_n 2, 1) := by decide +kernel
theorem dL_names_136 : decode cL_names 136 = .ok (.iload 12, 2) := by decide +kernel
theorem dL_names_138 : decode cL_names 138 = .ok (.iaload, 1) := by decide +kernel
theorem dL_names_139 : decode cL_names 139 = .ok (.invokestatic 56, 3) := by decide +kernel
theorem dL_names_142 : decode cL_names 142 = .ok (.aload_n 0, 1) := by decide +kernel
theorem dL_names_143 : decode cL_names 143 = .ok (.iload 10, 2) := by decide +kernel
theorem dL_names_145 : decode cL_names 145 = .ok (.iload 11, 2) := by decide +kernel
theorem dL_names_147 : decode cL_names 147 = .ok (.iload 12, 2) := by decide +kernel
theorem dL_names_149 : decode cL_names 149 = .ok (.invokevirtual 74, 3) := by decide +kernel
theorem dL_names_152 : decode cL_names 152 = .ok (.aload_n 2, 1) := by decide +kernel
theorem dL_names_153 : decode cL_names 153 = .ok (.iload 12, 2) := by decide +kernel
theorem dL_names_155 : decode cL_names 155 = .ok (.iaload, 1) := by decide +kernel
theorem dL_names_156 : decode cL_names 156 = .ok (.ifCond .ge 9, 3) := by decide +kernel
theorem dL_names_159 : decode cL_names 159 = .ok (.sipush 300, 3) := by decide +kernel
theorem dL_names_162 : decode cL_names 162 = .ok (.goto 7, 3) := by decide +kernel
theorem dL_names_165 : decode cL_names 165 = .ok (.aload_n 2, 1) := by decide +kernel
theorem dL_names_166 : decode cL_names 166 = .ok (.iload 12, 2) := by decide +kernel
theorem dL_names_168 : decode cL_names 168 = .ok (.iaload, 1) := by decide +kernel
theorem dL_names_169 : decode cL_names 169 = .ok (.if_icmp .ne 7, 3) := by decide +kernel
theorem dL_names_172 : decode cL_names 172 = .ok (.iconst 1, 1) := by decide +kernel
theorem dL_names_173 : decode cL_names 173 = .ok (.goto 4, 3) := by decide +kernel
theorem dL_names_176 : decode cL_names 176 = .ok (.iconst 0, 1) := by decide +kernel
theorem dL_names_177 : decode cL_names 177 = .ok (.ireturn, 1) := by decide +kernel
theorem dL_names_178 : decode cL_names 178 = .ok (.aload 5, 2) := by decide +kernel
theorem dL_names_180 : decode cL_names 180 = .ok (.aload 6, 2) := by decide +kernel
theorem dL_names_182 : decode cL_names 182 = .ok (.aload 7, 2) := by decide +kernel
theorem dL_names_184 : decode cL_names 184 = .ok (.iload 13, 2) := by decide +kernel
theorem dL_names_186 : decode cL_names 186 = .ok (.iload 11, 2) := by decide +kernel
theorem dL_names_188 : decode cL_names 188 = .ok (.aload_n 1, 1) := by decide +kernel
theorem dL_names_189 : decode cL_names 189 = .ok (.aload_n 3, 1) := by decide +kernel
theorem dL_names_190 : decode cL_names 190 = .ok (.aload 4, 2) := by decide +kernel
theorem dL_names_192 : decode cL_names 192 = .ok (.aload 5, 2) := by decide +kernel
theorem dL_names_194 : decode cL_names 194 = .ok (.aload 6, 2) := by decide +kernel
theorem dL_names_196 : decode cL_names 196 = .ok (.aload 7, 2) := by decide +kernel
theorem dL_names_198 : decode cL_names 198 = .ok (.aload 5, 2) := by decide +kernel
theorem dL_names_200 : decode cL_names 200 = .ok (.aload 6, 2) := by decide +kernel
theorem dL_names_202 : decode cL_names 202 = .ok (.aload 7, 2) := by decide +kernel
theorem dL_names_204 : decode cL_names 204 = .ok (.iload 13, 2) := by decide +kernel
theorem dL_names_206 : decode cL_names 206 = .ok (.invokestatic 33, 3) := by decide +kernel
theorem dL_names_209 : decode cL_names 209 = .ok (.iload 11, 2) := by decide +kernel
theorem dL_names_211 : decode cL_names 211 = .ok (.invokestatic 15, 3) := by decide +kernel
theorem dL_names_214 : decode cL_names 214 = .ok (.invokestatic 48, 3) := by decide +kernel
theorem dL_names_217 : decode cL_names 217 = .ok (.invokestatic 56, 3) := by decide +kernel
theorem dL_names_220 : decode cL_names 220 = .ok (.aload_n 2, 1) := by decide +kernel
theorem dL_names_221 : decode cL_names 221 = .ok (.iload 12, 2) := by decide +kernel
theorem dL_names_223 : decode cL_names 223 = .ok (.aload 5, 2) := by decide +kernel
theorem dL_names_225 : decode cL_names 225 = .ok (.aload 6, 2) := by decide +kernel
theorem dL_names_227 : decode cL_names 227 = .ok (.aload 7, 2) := by decide +kernel
theorem dL_names_229 : decode cL_names 229 = .ok (.iload 13, 2) := by decide +kernel
theorem dL_names_231 : decode cL_names 231 = .ok (.invokestatic 33, 3) := by decide +kernel
theorem dL_names_234 : decode cL_names 234 = .ok (.iload 11, 2) := by decide +kernel
theorem dL_names_236 : decode cL_names 236 = .ok (.invokestatic 15, 3) := by decide +kernel
theorem dL_names_239 : decode cL_names 239 = .ok (.iastore, 1) := by decide +kernel
theorem dL_names_240 : decode cL_names 240 = .ok (.aload_n 0, 1) := by decide +kernel
theorem dL_names_241 : decode cL_names 241 = .ok (.iload 10, 2) := by decide +kernel
theorem dL_names_243 : decode cL_names 243 = .ok (.iload 11, 2) := by decide +kernel
theorem dL_names_245 : decode cL_names 245 = .ok (.iload 12, 2) := by decide +kernel
theorem dL_names_247 : decode cL_names 247 = .ok (.invokevirtual 78, 3) := by decide +kernel
theorem dL_names_250 : decode cL_names 250 = .ok (.aload_n 2, 1) := by decide +kernel
theorem dL_names_251 : decode cL_names 251 = .ok (.iload 12, 2) := by decide +kernel
theorem dL_names_253 : decode cL_names 253 = .ok (.iaload, 1) := by decide +kernel
theorem dL_names_254 : decode cL_names 254 = .ok (.ifCond .ge 9, 3) := by decide +kernel
theorem dL_names_257 : decode cL_names 257 = .ok (.sipush 300, 3) := by decide +kernel
theorem dL_names_260 : decode cL_names 260 = .ok (.goto 7, 3) := by decide +kernel
theorem dL_names_263 : decode cL_names 263 = .ok (.aload_n 2, 1) := by decide +kernel
theorem dL_names_264 : decode cL_names 264 = .ok (.iload 12, 2) := by decide +kernel
theorem dL_names_266 : decode cL_names 266 = .ok (.iaload, 1) := by decide +kernel
theorem dL_names_267 : decode cL_names 267 = .ok (.if_icmp .ne 7, 3) := by decide +kernel
theorem dL_names_270 : decode cL_names 270 = .ok (.iconst 1, 1) := by decide +kernel
theorem dL_names_271 : decode cL_names 271 = .ok (.goto 4, 3) := by decide +kernel
theorem dL_names_274 : decode cL_names 274 = .ok (.iconst 0, 1) := by decide +kernel
theorem dL_names_275 : decode cL_names 275 = .ok (.ireturn, 1) := by decide +kernel
theorem dL_address_0 : decode cL_address 0 = .ok (.iload_n 0, 1) := by decide +kernel
theorem dL_address_1 : decode cL_address 1 = .ok (.bipush 64, 2) := by decide +kernel
theorem dL_address_3 : decode cL_address 3 = .ok (.idiv, 1) := by decide +kernel
theorem dL_address_4 : decode cL_address 4 = .ok (.bipush 100, 2) := by decide +kernel
theorem dL_address_6 : decode cL_address 6 = .ok (.imul, 1) := by decide +kernel
theorem dL_address_7 : decode cL_address 7 = .ok (.iload_n 0, 1) := by decide +kernel
theorem dL_address_8 : decode cL_address 8 = .ok (.bipush 64, 2) := by decide +kernel
theorem dL_address_10 : decode cL_address 10 = .ok (.irem, 1) := by decide +kernel
theorem dL_address_11 : decode cL_address 11 = .ok (.iadd, 1) := by decide +kernel
theorem dL_address_12 : decode cL_address 12 = .ok (.ireturn, 1) := by decide +kernel
set_option maxRecDepth 20000 in
theorem ggL_mends_L_address : GoodIn wsL_mends wsL_address := goodIn_r _ [4] (by decide +kernel) (by decide +kernel)
set_option maxRecDepth 20000 in
theorem gL_mends_L_address : GoodIn wsL_mends (va_wsS RL 81 yL_address wsL_address) := goodIn_app (goodIn_of _ (by decide +kernel)) ggL_mends_L_address
set_option maxRecDepth 20000 in
theorem ggL_mends_L_at : GoodIn wsL_mends wsL_at := goodIn_r _ [7] (by decide +kernel) (by decide +kernel)
set_option maxRecDepth 20000 in
theorem gL_mends_L_at : GoodIn wsL_mends (va_wsS RL 33 yL_at wsL_at) := goodIn_app (goodIn_of _ (by decide +kernel)) ggL_mends_L_at
set_option maxRecDepth 20000 in
theorem ggL_mends_L_thing : GoodIn wsL_mends wsL_thing := goodIn_r _ [10, 11] (by decide +kernel) (by decide +kernel)
set_option maxRecDepth 20000 in
theorem gL_mends_L_thing : GoodIn wsL_mends (va_wsS RL 21 yL_thing wsL_thing) := goodIn_app (goodIn_of _ (by decide +kernel)) ggL_mends_L_thing
set_option maxRecDepth 20000 in
theorem ggL_mends_X7_mend : GoodIn wsL_mends wsX7_mend := goodIn_r _ [16, 17, 18, 19, 20, 21, 22, 23, 24, 25, 26, 27, 28, 29, 30, 31, 32, 33, 34, 35, 36, 37, 38, 39, 40, 41, 42, 43, 44, 45, 46, 47, 48, 49, 50, 51, 52, 53, 54, 55, 56, 57, 58, 59, 60, 61, 62, 63, 64, 65, 66, 67, 68, 69, 70, 71, 72, 73, 74, 75, 76, 77, 78, 79, 80, 81, 82, 83, 84, 85, 86, 87, 88, 89, 90, 91, 92, 93, 94, 95, 96, 97, 98, 99, 100, 101, 102, 103, 104, 105, 106, 107, 108, 109, 110, 111, 112, 113, 114, 115, 116, 117, 118, 119, 120, 121, 15, 122, 123, 124, 125, 126, 137, 138, 139, 140, 141, 142, 143, 144, 145, 146, 147, 148, 149, 150, 151, 152, 153, 154, 155, 156, 157, 158, 159, 160, 161, 162, 163] (by decide +kernel) (by decide +kernel)
set_option maxRecDepth 20000 in
theorem gL_mends_X7_mend : GoodIn wsL_mends (wsV RL 85 RX7 yX7_mend wsX7_mend) := goodIn_app (goodIn_of _ (by decide +kernel)) ggL_mends_X7_mend
set_option maxRecDepth 20000 in
theorem ggL_mends_L_name : GoodIn wsL_mends wsL_name := goodIn_r _ [129, 130] (by decide +kernel) (by decide +kernel)
