set_option maxRecDepth 20000 in
theorem gL_mends_L_name : GoodIn wsL_mends (va_wsS RL 15 yL_name wsL_name) := goodIn_app (goodIn_of _ (by decide +kernel)) ggL_mends_L_name
set_option maxRecDepth 20000 in
theorem ggL_mends_L_renames : GoodIn wsL_mends wsL_renames := goodIn_r _ [133, 5, 6, 3, 7, 127, 128, 129, 130, 134, 135, 136] (by decide +kernel) (by decide +kernel)
set_option maxRecDepth 20000 in
theorem gL_mends_L_renames : GoodIn wsL_mends (va_wsS RL 56 yL_renames wsL_renames) := goodIn_app (goodIn_of _ (by decide +kernel)) ggL_mends_L_renames
set_option maxRecDepth 20000 in
theorem ggL_mends_L_puts : GoodIn wsL_mends wsL_puts := goodIn_r _ [136] (by decide +kernel) (by decide +kernel)
set_option maxRecDepth 20000 in
theorem gL_mends_L_puts : GoodIn wsL_mends (va_wsS RL 29 yL_puts wsL_puts) := goodIn_app (goodIn_of _ (by decide +kernel)) ggL_mends_L_puts
theorem dL_mends_0 : decode cL_mends 0 = .ok (.iconst (-1), 1) := by decide +kernel
theorem dL_mends_1 : decode cL_mends 1 = .ok (.istore 7, 2) := by decide +kernel
theorem dL_mends_3 : decode cL_mends 3 = .ok (.iconst 0, 1) := by decide +kernel
theorem dL_mends_4 : decode cL_mends 4 = .ok (.istore 8, 2) := by decide +kernel
theorem dL_mends_6 : decode cL_mends 6 = .ok (.iconst 0, 1) := by decide +kernel
theorem dL_mends_7 : decode cL_mends 7 = .ok (.istore 9, 2) := by decide +kernel
theorem dL_mends_9 : decode cL_mends 9 = .ok (.iload 9, 2) := by decide +kernel
theorem dL_mends_11 : decode cL_mends 11 = .ok (.sipush 188, 3) := by decide +kernel
theorem dL_mends_14 : decode cL_mends 14 = .ok (.if_icmp .ge 50, 3) := by decide +kernel
theorem dL_mends_17 : decode cL_mends 17 = .ok (.aload_n 3, 1) := by decide +kernel
theorem dL_mends_18 : decode cL_mends 18 = .ok (.aload 4, 2) := by decide +kernel
theorem dL_mends_20 : decode cL_mends 20 = .ok (.aload 5, 2) := by decide +kernel
theorem dL_mends_22 : decode cL_mends 22 = .ok (.iload 9, 2) := by decide +kernel
theorem dL_mends_24 : decode cL_mends 24 = .ok (.invokestatic 81, 3) := by decide +kernel
theorem dL_mends_27 : decode cL_mends 27 = .ok (.invokestatic 33, 3) := by decide +kernel
theorem dL_mends_30 : decode cL_mends 30 = .ok (.invokestatic 21, 3) := by decide +kernel
theorem dL_mends_33 : decode cL_mends 33 = .ok (.iload 6, 2) := by decide +kernel
theorem dL_mends_35 : decode cL_mends 35 = .ok (.if_icmp .ne 23, 3) := by decide +kernel
theorem dL_mends_38 : decode cL_mends 38 = .ok (.iload 8, 2) := by decide +kernel
theorem dL_mends_40 : decode cL_mends 40 = .ok (.ifCond .ne 11, 3) := by decide +kernel
theorem dL_mends_43 : decode cL_mends 43 = .ok (.iload 9, 2) := by decide +kernel
theorem dL_mends_45 : decode cL_mends 45 = .ok (.invokestatic 81, 3) := by decide +kernel
theorem dL_mends_48 : decode cL_mends 48 = .ok (.goto 5, 3) := by decide +kernel
theorem dL_mends_51 : decode cL_mends 51 = .ok (.iload 7, 2) := by decide +kernel
theorem dL_mends_53 : decode cL_mends 53 = .ok (.istore 7, 2) := by decide +kernel
theorem dL_mends_55 : decode cL_mends 55 = .ok (.iinc 8 1, 3) := by decide +kernel
theorem dL_mends_58 : decode cL_mends 58 = .ok (.iinc 9 1, 3) := by decide +kernel
theorem dL_mends_61 : decode cL_mends 61 = .ok (.goto (-52), 3) := by decide +kernel
theorem dL_mends_64 : decode cL_mends 64 = .ok (.aload_n 1, 1) := by decide +kernel
theorem dL_mends_65 : decode cL_mends 65 = .ok (.iconst 2, 1) := by decide +kernel
theorem dL_mends_66 : decode cL_mends 66 = .ok (.iaload, 1) := by decide +kernel
theorem dL_mends_67 : decode cL_mends 67 = .ok (.iconst 1, 1) := by decide +kernel
theorem dL_mends_68 : decode cL_mends 68 = .ok (.if_icmp .eq 9, 3) := by decide +kernel
theorem dL_mends_71 : decode cL_mends 71 = .ok (.iload 8, 2) := by decide +kernel
theorem dL_mends_73 : decode cL_mends 73 = .ok (.iconst 2, 1) := by decide +kernel
theorem dL_mends_74 : decode cL_mends 74 = .ok (.if_icmp .ge 20, 3) := by decide +kernel
theorem dL_mends_77 : decode cL_mends 77 = .ok (.aload_n 0, 1) := by decide +kernel
theorem dL_mends_78 : decode cL_mends 78 = .ok (.iload 6, 2) := by decide +kernel
theorem dL_mends_80 : decode cL_mends 80 = .ok (.invokevirtual 85, 3) := by decide +kernel
theorem dL_mends_83 : decode cL_mends 83 = .ok (.bipush (-2), 2) := by decide +kernel
theorem dL_mends_85 : decode cL_mends 85 = .ok (.if_icmp .ne 7, 3) := by decide +kernel
theorem dL_mends_88 : decode cL_mends 88 = .ok (.iconst 1, 1) := by decide +kernel
theorem dL_mends_89 : decode cL_mends 89 = .ok (.goto 4, 3) := by decide +kernel
theorem dL_mends_92 : decode cL_mends 92 = .ok (.iconst 0, 1) := by decide +kernel
theorem dL_mends_93 : decode cL_mends 93 = .ok (.ireturn, 1) := by decide +kernel
theorem dL_mends_94 : decode cL_mends 94 = .ok (.iconst 0, 1) := by decide +kernel
theorem dL_mends_95 : decode cL_mends 95 = .ok (.istore 9, 2) := by decide +kernel
theorem dL_mends_97 : decode cL_mends 97 = .ok (.iload 9, 2) := by decide +kernel
theorem dL_mends_99 : decode cL_mends 99 = .ok (.bipush 8, 2) := by decide +kernel
theorem dL_mends_101 : decode cL_mends 101 = .ok (.if_icmp .ge 49, 3) := by decide +kernel
theorem dL_mends_104 : decode cL_mends 104 = .ok (.aload_n 2, 1) := by decide +kernel
theorem dL_mends_105 : decode cL_mends 105 = .ok (.iload 9, 2) := by decide +kernel
theorem dL_mends_107 : decode cL_mends 107 = .ok (.aload_n 2, 1) := by decide +kernel
theorem dL_mends_108 : decode cL_mends 108 = .ok (.iload 9, 2) := by decide +kernel
theorem dL_mends_110 : decode cL_mends 110 = .ok (.iaload, 1) := by decide +kernel
theorem dL_mends_111 : decode cL_mends 111 = .ok (.ifCond .lt 28, 3) := by decide +kernel
theorem dL_mends_114 : decode cL_mends 114 = .ok (.aload_n 3, 1) := by decide +kernel
theorem dL_mends_115 : decode cL_mends 115 = .ok (.aload 4, 2) := by decide +kernel
theorem dL_mends_117 : decode cL_mends 117 = .ok (.aload 5, 2) := by decide +kernel
theorem dL_mends_119 : decode cL_mends 119 = .ok (.aload_n 2, 1) := by decide +kernel
theorem dL_mends_120 : decode cL_mends 120 = .ok (.iload 9, 2) := by decide +kernel
theorem dL_mends_122 : decode cL_mends 122 = .ok (.iaload, 1) := by decide +kernel
theorem dL_mends_123 : decode cL_mends 123 = .ok (.invokestatic 33, 3) := by decide +kernel
theorem dL_mends_126 : decode cL_mends 126 = .ok (.invokestatic 21, 3) := by decide +kernel
theorem dL_mends_129 : decode cL_mends 129 = .ok (.iload 6, 2) := by decide +kernel
theorem dL_mends_131 : decode cL_mends 131 = .ok (.if_icmp .ne 8, 3) := by decide +kernel
theorem dL_mends_134 : decode cL_mends 134 = .ok (.iload 7, 2) := by decide +kernel
theorem dL_mends_136 : decode cL_mends 136 = .ok (.goto 7, 3) := by decide +kernel
theorem dL_mends_139 : decode cL_mends 139 = .ok (.aload_n 2, 1) := by decide +kernel
theorem dL_mends_140 : decode cL_mends 140 = .ok (.iload 9, 2) := by decide +kernel
theorem dL_mends_142 : decode cL_mends 142 = .ok (.iaload, 1) := by decide +kernel
theorem dL_mends_143 : decode cL_mends 143 = .ok (.iastore, 1) := by decide +kernel
theorem dL_mends_144 : decode cL_mends 144 = .ok (.iinc 9 1, 3) := by decide +kernel
theorem dL_mends_147 : decode cL_mends 147 = .ok (.goto (-50), 3) := by decide +kernel
theorem dL_mends_150 : decode cL_mends 150 = .ok (.iconst 0, 1) := by decide +kernel
theorem dL_mends_151 : decode cL_mends 151 = .ok (.istore 9, 2) := by decide +kernel
theorem dL_mends_153 : decode cL_mends 153 = .ok (.iload 9, 2) := by decide +kernel
theorem dL_mends_155 : decode cL_mends 155 = .ok (.sipush 376, 3) := by decide +kernel
theorem dL_mends_158 : decode cL_mends 158 = .ok (.if_icmp .ge 92, 3) := by decide +kernel
theorem dL_mends_161 : decode cL_mends 161 = .ok (.iload 9, 2) := by decide +kernel
theorem dL_mends_163 : decode cL_mends 163 = .ok (.iconst 2, 1) := by decide +kernel
theorem dL_mends_164 : decode cL_mends 164 = .ok (.idiv, 1) := by decide +kernel
theorem dL_mends_165 : decode cL_mends 165 = .ok (.invokestatic 81, 3) := by decide +kernel
theorem dL_mends_168 : decode cL_mends 168 = .ok (.istore 10, 2) := by decide +kernel
theorem dL_mends_170 : decode cL_mends 170 = .ok (.aload_n 3, 1) := by decide +kernel
theorem dL_mends_171 : decode cL_mends 171 = .ok (.aload 4, 2) := by decide +kernel
theorem dL_mends_173 : decode cL_mends 173 = .ok (.aload 5, 2) := by decide +kernel
theorem dL_mends_175 : decode cL_mends 175 = .ok (.iload 10, 2) := by decide +kernel
theorem dL_mends_177 : decode cL_mends 177 = .ok (.invokestatic 33, 3) := by decide +kernel
theorem dL_mends_180 : decode cL_mends 180 = .ok (.lstore 11, 2) := by decide +kernel
theorem dL_mends_182 : decode cL_mends 182 = .ok (.lload 11, 2) := by decide +kernel
theorem dL_mends_184 : decode cL_mends 184 = .ok (.lconst 0, 1) := by decide +kernel
theorem dL_mends_185 : decode cL_mends 185 = .ok (.lcmp, 1) := by decide +kernel
theorem dL_mends_186 : decode cL_mends 186 = .ok (.ifCond .ne 8, 3) := by decide +kernel
theorem dL_mends_189 : decode cL_mends 189 = .ok (.bipush (-9), 2) := by decide +kernel
theorem dL_mends_191 : decode cL_mends 191 = .ok (.goto 12, 3) := by decide +kernel
theorem dL_mends_194 : decode cL_mends 194 = .ok (.lload 11, 2) := by decide +kernel
theorem dL_mends_196 : decode cL_mends 196 = .ok (.iload 9, 2) := by decide +kernel
theorem dL_mends_198 : decode cL_mends 198 = .ok (.iconst 2, 1) := by decide +kernel
theorem dL_mends_199 : decode cL_mends 199 = .ok (.irem, 1) := by decide +kernel
theorem dL_mends_200 : decode cL_mends 200 = .ok (.invokestatic 15, 3) := by decide +kernel
theorem dL_mends_203 : decode cL_mends 203 = .ok (.istore 13, 2) := by decide +kernel
theorem dL_mends_205 : decode cL_mends 205 = .ok (.iload 13, 2) := by decide +kernel
theorem dL_mends_207 : decode cL_mends 207 = .ok (.ifCond .lt 37, 3) := by decide +kernel
theorem dL_mends_210 : decode cL_mends 210 = .ok (.aload_n 3, 1) := by decide +kernel
theorem dL_mends_211 : decode cL_mends 211 = .ok (.aload 4, 2) := by decide +kernel
theorem dL_mends_213 : decode cL_mends 213 = .ok (.aload 5, 2) := by decide +kernel
theorem dL_mends_215 : decode cL_mends 215 = .ok (.iload 13, 2) := by decide +kernel
theorem dL_mends_217 : decode cL_mends 217 = .ok (.invokestatic 33, 3) := by decide +kernel
theorem dL_mends_220 : decode cL_mends 220 = .ok (.invokestatic 21, 3) := by decide +kernel
theorem dL_mends_223 : decode cL_mends 223 = .ok (.iload 6, 2) := by decide +kernel
theorem dL_mends_225 : decode cL_mends 225 = .ok (.if_icmp .ne 19, 3) := by decide +kernel
theorem dL_mends_228 : decode cL_mends 228 = .ok (.aload_n 3, 1) := by decide +kernel
theorem dL_mends_229 : decode cL_mends 229 = .ok (.aload 4, 2) := by decide +kernel
theorem dL_mends_231 : decode cL_mends 231 = .ok (.aload 5, 2) := by decide +kernel
theorem dL_mends_233 : decode cL_mends 233 = .ok (.iload 10, 2) := by decide +kernel
theorem dL_mends_235 : decode cL_mends 235 = .ok (.iload 9, 2) := by decide +kernel
theorem dL_mends_237 : decode cL_mends 237 = .ok (.iconst 2, 1) := by decide +kernel
theorem dL_mends_238 : decode cL_mends 238 = .ok (.irem, 1) := by decide +kernel
theorem dL_mends_239 : decode cL_mends 239 = .ok (.iload 7, 2) := by decide +kernel
theorem dL_mends_241 : decode cL_mends 241 = .ok (.invokestatic 56, 3) := by decide +kernel
theorem dL_mends_244 : decode cL_mends 244 = .ok (.iinc 9 1, 3) := by decide +kernel
theorem dL_mends_247 : decode cL_mends 247 = .ok (.goto (-94), 3) := by decide +kernel
theorem dL_mends_250 : decode cL_mends 250 = .ok (.iconst 0, 1) := by decide +kernel
theorem dL_mends_251 : decode cL_mends 251 = .ok (.istore 9, 2) := by decide +kernel
theorem dL_mends_253 : decode cL_mends 253 = .ok (.iload 9, 2) := by decide +kernel
theorem dL_mends_255 : decode cL_mends 255 = .ok (.sipush 188, 3) := by decide +kernel
theorem dL_mends_258 : decode cL_mends 258 = .ok (.if_icmp .ge 54, 3) := by decide +kernel
theorem dL_mends_261 : decode cL_mends 261 = .ok (.iload 9, 2) := by decide +kernel
theorem dL_mends_263 : decode cL_mends 263 = .ok (.invokestatic 81, 3) := by decide +kernel
theorem dL_mends_266 : decode cL_mends 266 = .ok (.iload 7, 2) := by decide +kernel
theorem dL_mends_268 : decode cL_mends 268 = .ok (.if_icmp .eq 38, 3) := by decide +kernel
theorem dL_mends_271 : decode cL_mends 271 = .ok (.aload_n 3, 1) := by decide +kernel
theorem dL_mends_272 : decode cL_mends 272 = .ok (.aload 4, 2) := by decide +kernel
theorem dL_mends_274 : decode cL_mends 274 = .ok (.aload 5, 2) := by decide +kernel
theorem dL_mends_276 : decode cL_mends 276 = .ok (.iload 9, 2) := by decide +kernel
theorem dL_mends_278 : decode cL_mends 278 = .ok (.invokestatic 81, 3) := by decide +kernel
theorem dL_mends_281 : decode cL_mends 281 = .ok (.invokestatic 33, 3) := by decide +kernel
theorem dL_mends_284 : decode cL_mends 284 = .ok (.invokestatic 21, 3) := by decide +kernel
theorem dL_mends_287 : decode cL_mends 287 = .ok (.iload 6, 2) := by decide +kernel
theorem dL_mends_289 : decode cL_mends 289 = .ok (.if_icmp .ne 17, 3) := by decide +kernel
theorem dL_mends_292 : decode cL_mends 292 = .ok (.aload_n 3, 1) := by decide +kernel
theorem dL_mends_293 : decode cL_mends 293 = .ok (.aload 4, 2) := by decide +kernel
theorem dL_mends_295 : decode cL_mends 295 = .ok (.aload 5, 2) := by decide +kernel
theorem dL_mends_297 : decode cL_mends 297 = .ok (.iload 9, 2) := by decide +kernel
theorem dL_mends_299 : decode cL_mends 299 = .ok (.invokestatic 81, 3) := by decide +kernel
theorem dL_mends_302 : decode cL_mends 302 = .ok (.lconst 0, 1) := by decide +kernel
theorem dL_mends_303 : decode cL_mends 303 = .ok (.invokestatic 29, 3) := by decide +kernel
theorem dL_mends_306 : decode cL_mends 306 = .ok (.iinc 9 1, 3) := by decide +kernel
theorem dL_mends_309 : decode cL_mends 309 = .ok (.goto (-56), 3) := by decide +kernel
theorem dL_mends_312 : decode cL_mends 312 = .ok (.aload_n 0, 1) := by decide +kernel
theorem dL_mends_313 : decode cL_mends 313 = .ok (.iload 6, 2) := by decide +kernel
theorem dL_mends_315 : decode cL_mends 315 = .ok (.invokevirtual 85, 3) := by decide +kernel
theorem dL_mends_318 : decode cL_mends 318 = .ok (.iload 8, 2) := by decide +kernel
theorem dL_mends_320 : decode cL_mends 320 = .ok (.iconst 1, 1) := by decide +kernel
theorem dL_mends_321 : decode cL_mends 321 = .ok (.isub, 1) := by decide +kernel
theorem dL_mends_322 : decode cL_mends 322 = .ok (.if_icmp .ne 7, 3) := by decide +kernel
theorem dL_mends_325 : decode cL_mends 325 = .ok (.iconst 1, 1) := by decide +kernel
theorem dL_mends_326 : decode cL_mends 326 = .ok (.goto 4, 3) := by decide +kernel
theorem dL_mends_329 : decode cL_mends 329 = .ok (.iconst 0, 1) := by decide +kernel
theorem dL_mends_330 : decode cL_mends 330 = .ok (.ireturn, 1) := by decide +kernel
set_option maxRecDepth 20000 in
theorem ggL_loses_L_thing : GoodIn wsL_loses wsL_thing := goodIn_r _ [4, 5] (by decide +kernel) (by decide +kernel)
set_option maxRecDepth 20000 in
theorem gL_loses_L_thing : GoodIn wsL_loses (va_wsS RL 21 yL_thing wsL_thing) := goodIn_app (goodIn_of _ (by decide +kernel)) ggL_loses_L_thing
set_option maxRecDepth 20000 in
theorem ggL_loses_L_name : GoodIn wsL_loses wsL_name := goodIn_r _ [8, 9] (by decide +kernel) (by decide +kernel)
set_option maxRecDepth 20000 in
theorem gL_loses_L_name : GoodIn wsL_loses (va_wsS RL 15 yL_name wsL_name) := goodIn_app (goodIn_of _ (by decide +kernel)) ggL_loses_L_name
set_option maxRecDepth 20000 in
theorem ggL_loses_X7_lose : GoodIn wsL_loses wsX7_lose := goodIn_r _ [14, 15, 16, 17, 18, 19, 20, 21, 22, 23, 24, 25, 26, 27, 28, 29, 30, 31, 32, 33, 34, 35, 36, 37, 38, 39, 40, 41, 42, 43, 44, 45, 46, 47, 48, 49, 50, 51, 52, 53, 54, 55, 56, 57, 58, 59, 60, 61, 62, 63, 64, 65, 66, 67, 68, 69, 70, 71, 72, 73, 74, 75, 76, 77, 78, 79, 80, 81, 82, 83, 84, 85, 86, 87, 88, 89, 90, 91, 92, 93, 94, 95, 96, 97, 98, 99, 100, 101, 102, 103, 104, 105, 106, 107, 108, 109, 110, 111, 112, 113, 114, 115, 116, 117, 118, 13, 119, 120, 121, 122, 123, 136, 137, 138, 139, 140, 141, 142, 143, 144, 145, 146, 147, 148, 149, 150, 151, 152, 153, 154, 155, 156, 157, 158, 159, 160, 161, 162] (by decide +kernel) (by decide +kernel)
set_option maxRecDepth 20000 in
theorem gL_loses_X7_lose : GoodIn wsL_loses (wsV RL 88 RX7 yX7_lose wsX7_lose) := goodIn_app (goodIn_of _ (by decide +kernel)) ggL_loses_X7_lose
set_option maxRecDepth 20000 in
theorem ggL_loses_L_kept : GoodIn wsL_loses wsL_kept := goodIn_r _ [126, 6, 7, 3, 8, 9, 1, 2, 4, 5] (by decide +kernel) (by decide +kernel)
set_option maxRecDepth 20000 in
theorem gL_loses_L_kept : GoodIn wsL_loses (va_wsS RL 64 yL_kept wsL_kept) := goodIn_app (goodIn_of _ (by decide +kernel)) ggL_loses_L_kept
set_option maxRecDepth 20000 in
theorem ggL_loses_L_renames : GoodIn wsL_loses wsL_renames := goodIn_r _ [129, 130, 131, 3, 132, 6, 7, 8, 9, 133, 134, 135] (by decide +kernel) (by decide +kernel)
set_option maxRecDepth 20000 in
theorem gL_loses_L_renames : GoodIn wsL_loses (va_wsS RL 56 yL_renames wsL_renames) := goodIn_app (goodIn_of _ (by decide +kernel)) ggL_loses_L_renames
theorem dL_loses_0 : decode cL_loses 0 = .ok (.iconst (-1), 1) := by decide +kernel
theorem dL_loses_1 : decode cL_loses 1 = .ok (.istore 7, 2) := by decide +kernel
theorem dL_loses_3 : decode cL_loses 3 = .ok (.bipush 63, 2) := by decide +kernel
theorem dL_loses_5 : decode cL_loses 5 = .ok (.istore 8, 2) := by decide +kernel
theorem dL_loses_7 : decode cL_loses 7 = .ok (.iload 8, 2) := by decide +kernel
theorem dL_loses_9 : decode cL_loses 9 = .ok (.ifCond .lt 75, 3) := by decide +kernel
theorem dL_loses_12 : decode cL_loses 12 = .ok (.aload_n 1, 1) := by decide +kernel
theorem dL_loses_13 : decode cL_loses 13 = .ok (.iconst 3, 1) := by decide +kernel
theorem dL_loses_14 : decode cL_loses 14 = .ok (.iaload, 1) := by decide +kernel
theorem dL_loses_15 : decode cL_loses 15 = .ok (.iconst 1, 1) := by decide +kernel
theorem dL_loses_16 : decode cL_loses 16 = .ok (.if_icmp .ne 10, 3) := by decide +kernel
theorem dL_loses_19 : decode cL_loses 19 = .ok (.aload_n 3, 1) := by decide +kernel
theorem dL_loses_20 : decode cL_loses 20 = .ok (.iload 8, 2) := by decide +kernel
theorem dL_loses_22 : decode cL_loses 22 = .ok (.laload, 1) := by decide +kernel
theorem dL_loses_23 : decode cL_loses 23 = .ok (.goto 8, 3) := by decide +kernel
theorem dL_loses_26 : decode cL_loses 26 = .ok (.aload 4, 2) := by decide +kernel
theorem dL_loses_28 : decode cL_loses 28 = .ok (.iload 8, 2) := by decide +kernel
theorem dL_loses_30 : decode cL_loses 30 = .ok (.laload, 1) := by decide +kernel
theorem dL_loses_31 : decode cL_loses 31 = .ok (.lstore 9, 2) := by decide +kernel
theorem dL_loses_33 : decode cL_loses 33 = .ok (.aload_n 1, 1) := by decide +kernel
theorem dL_loses_34 : decode cL_loses 34 = .ok (.iconst 2, 1) := by decide +kernel
theorem dL_loses_35 : decode cL_loses 35 = .ok (.iaload, 1) := by decide +kernel
theorem dL_loses_36 : decode cL_loses 36 = .ok (.iconst 1, 1) := by decide +kernel
theorem dL_loses_37 : decode cL_loses 37 = .ok (.if_icmp .ne 37, 3) := by decide +kernel
theorem dL_loses_40 : decode cL_loses 40 = .ok (.lload 9, 2) := by decide +kernel
theorem dL_loses_42 : decode cL_loses 42 = .ok (.invokestatic 21, 3) := by decide +kernel
theorem dL_loses_45 : decode cL_loses 45 = .ok (.iload 6, 2) := by decide +kernel
theorem dL_loses_47 : decode cL_loses 47 = .ok (.if_icmp .ne 27, 3) := by decide +kernel
theorem dL_loses_50 : decode cL_loses 50 = .ok (.lload 9, 2) := by decide +kernel
theorem dL_loses_52 : decode cL_loses 52 = .ok (.iconst 2, 1) := by decide +kernel
theorem dL_loses_53 : decode cL_loses 53 = .ok (.invokestatic 15, 3) := by decide +kernel
theorem dL_loses_56 : decode cL_loses 56 = .ok (.ifCond .lt 18, 3) := by decide +kernel
theorem dL_loses_59 : decode cL_loses 59 = .ok (.bipush 100, 2) := by decide +kernel
theorem dL_loses_61 : decode cL_loses 61 = .ok (.bipush 100, 2) := by decide +kernel
theorem dL_loses_63 : decode cL_loses 63 = .ok (.aload_n 1, 1) := by decide +kernel
theorem dL_loses_64 : decode cL_loses 64 = .ok (.iconst 3, 1) := by decide +kernel
theorem dL_loses_65 : decode cL_loses 65 = .ok (.iaload, 1) := by decide +kernel
theorem dL_loses_66 : decode cL_loses 66 = .ok (.imul, 1) := by decide +kernel
theorem dL_loses_67 : decode cL_loses 67 = .ok (.isub, 1) := by decide +kernel
theorem dL_loses_68 : decode cL_loses 68 = .ok (.iload 8, 2) := by decide +kernel
theorem dL_loses_70 : decode cL_loses 70 = .ok (.iadd, 1) := by decide +kernel
theorem dL_loses_71 : decode cL_loses 71 = .ok (.goto 5, 3) := by decide +kernel
theorem dL_loses_74 : decode cL_loses 74 = .ok (.iload 7, 2) := by decide +kernel
theorem dL_loses_76 : decode cL_loses 76 = .ok (.istore 7, 2) := by decide +kernel
theorem dL_loses_78 : decode cL_loses 78 = .ok (.iinc 8 (-1), 3) := by decide +kernel
theorem dL_loses_81 : decode cL_loses 81 = .ok (.goto (-74), 3) := by decide +kernel
theorem dL_loses_84 : decode cL_loses 84 = .ok (.iload 7, 2) := by decide +kernel
theorem dL_loses_86 : decode cL_loses 86 = .ok (.ifCond .ge 20, 3) := by decide +kernel
theorem dL_loses_89 : decode cL_loses 89 = .ok (.aload_n 0, 1) := by decide +kernel
theorem dL_loses_90 : decode cL_loses 90 = .ok (.iload 6, 2) := by decide +kernel
theorem dL_loses_92 : decode cL_loses 92 = .ok (.invokevirtual 88, 3) := by decide +kernel
theorem dL_loses_95 : decode cL_loses 95 = .ok (.bipush (-2), 2) := by decide +kernel
theorem dL_loses_97 : decode cL_loses 97 = .ok (.if_icmp .ne 7, 3) := by decide +kernel
theorem dL_loses_100 : decode cL_loses 100 = .ok (.iconst 1, 1) := by decide +kernel
theorem dL_loses_101 : decode cL_loses 101 = .ok (.goto 4, 3) := by decide +kernel
theorem dL_loses_104 : decode cL_loses 104 = .ok (.iconst 0, 1) := by decide +kernel
theorem dL_loses_105 : decode cL_loses 105 = .ok (.ireturn, 1) := by decide +kernel
theorem dL_loses_106 : decode cL_loses 106 = .ok (.bipush 64, 2) := by decide +kernel
theorem dL_loses_108 : decode cL_loses 108 = .ok (.aload_n 1, 1) := by decide +kernel
theorem dL_loses_109 : decode cL_loses 109 = .ok (.iconst 4, 1) := by decide +kernel
theorem dL_loses_110 : decode cL_loses 110 = .ok (.aload_n 1, 1) := by decide +kernel
theorem dL_loses_111 : decode cL_loses 111 = .ok (.iconst 3, 1) := by decide +kernel
theorem dL_loses_112 : decode cL_loses 112 = .ok (.iaload, 1) := by decide +kernel
theorem dL_loses_113 : decode cL_loses 113 = .ok (.iadd, 1) := by decide +kernel
theorem dL_loses_114 : decode cL_loses 114 = .ok (.iaload, 1) := by decide +kernel
theorem dL_loses_115 : decode cL_loses 115 = .ok (.isub, 1) := by decide +kernel
theorem dL_loses_116 : decode cL_loses 116 = .ok (.aload_n 1, 1) := by decide +kernel
theorem dL_loses_117 : decode cL_loses 117 = .ok (.aload_n 2, 1) := by decide +kernel
theorem dL_loses_118 : decode cL_loses 118 = .ok (.aload_n 3, 1) := by decide +kernel
theorem dL_loses_119 : decode cL_loses 119 = .ok (.aload 4, 2) := by decide +kernel
theorem dL_loses_121 : decode cL_loses 121 = .ok (.invokestatic 64, 3) := by decide +kernel
theorem dL_loses_124 : decode cL_loses 124 = .ok (.aload_n 2, 1) := by decide +kernel
theorem dL_loses_125 : decode cL_loses 125 = .ok (.iload 6, 2) := by decide +kernel
theorem dL_loses_127 : decode cL_loses 127 = .ok (.iaload, 1) := by decide +kernel
theorem dL_loses_128 : decode cL_loses 128 = .ok (.iadd, 1) := by decide +kernel
theorem dL_loses_129 : decode cL_loses 129 = .ok (.if_icmp .ge 20, 3) := by decide +kernel
theorem dL_loses_132 : decode cL_loses 132 = .ok (.aload_n 0, 1) := by decide +kernel
theorem dL_loses_133 : decode cL_loses 133 = .ok (.iload 6, 2) := by decide +kernel
theorem dL_loses_135 : decode cL_loses 135 = .ok (.invokevirtual 88, 3) := by decide +kernel
theorem dL_loses_138 : decode cL_loses 138 = .ok (.bipush (-3), 2) := by decide +kernel
theorem dL_loses_140 : decode cL_loses 140 = .ok (.if_icmp .ne 7, 3) := by decide +kernel
theorem dL_loses_143 : decode cL_loses 143 = .ok (.iconst 1, 1) := by decide +kernel
theorem dL_loses_144 : decode cL_loses 144 = .ok (.goto 4, 3) := by decide +kernel
theorem dL_loses_147 : decode cL_loses 147 = .ok (.iconst 0, 1) := by decide +kernel
theorem dL_loses_148 : decode cL_loses 148 = .ok (.ireturn, 1) := by decide +kernel
theorem dL_loses_149 : decode cL_loses 149 = .ok (.aload_n 3, 1) := by decide +kernel
theorem dL_loses_150 : decode cL_loses 150 = .ok (.aload 4, 2) := by decide +kernel
theorem dL_loses_152 : decode cL_loses 152 = .ok (.aload 5, 2) := by decide +kernel
theorem dL_loses_154 : decode cL_loses 154 = .ok (.iload 7, 2) := by decide +kernel
theorem dL_loses_156 : decode cL_loses 156 = .ok (.iconst 2, 1) := by decide +kernel
theorem dL_loses_157 : decode cL_loses 157 = .ok (.bipush (-9), 2) := by decide +kernel
theorem dL_loses_159 : decode cL_loses 159 = .ok (.invokestatic 56, 3) := by decide +kernel
theorem dL_loses_162 : decode cL_loses 162 = .ok (.aload_n 1, 1) := by decide +kernel
theorem dL_loses_163 : decode cL_loses 163 = .ok (.bipush 6, 2) := by decide +kernel
theorem dL_loses_165 : decode cL_loses 165 = .ok (.dup2, 1) := by decide +kernel
theorem dL_loses_166 : decode cL_loses 166 = .ok (.iaload, 1) := by decide +kernel
theorem dL_loses_167 : decode cL_loses 167 = .ok (.iconst 1, 1) := by decide +kernel
theorem dL_loses_168 : decode cL_loses 168 = .ok (.iadd, 1) := by decide +kernel
theorem dL_loses_169 : decode cL_loses 169 = .ok (.iastore, 1) := by decide +kernel
theorem dL_loses_170 : decode cL_loses 170 = .ok (.aload_n 0, 1) := by decide +kernel
theorem dL_loses_171 : decode cL_loses 171 = .ok (.iload 6, 2) := by decide +kernel
theorem dL_loses_173 : decode cL_loses 173 = .ok (.invokevirtual 88, 3) := by decide +kernel
theorem dL_loses_176 : decode cL_loses 176 = .ok (.iload 7, 2) := by decide +kernel
theorem dL_loses_178 : decode cL_loses 178 = .ok (.if_icmp .ne 7, 3) := by decide +kernel
theorem dL_loses_181 : decode cL_loses 181 = .ok (.iconst 1, 1) := by decide +kernel
theorem dL_loses_182 : decode cL_loses 182 = .ok (.goto 4, 3) := by decide +kernel
theorem dL_loses_185 : decode cL_loses 185 = .ok (.iconst 0, 1) := by decide +kernel
theorem dL_loses_186 : decode cL_loses 186 = .ok (.ireturn, 1) := by decide +kernel
set_option maxRecDepth 20000 in
theorem ggL_acts_L_low : GoodIn wsL_acts wsL_low := goodIn_r _ [5, 6] (by decide +kernel) (by decide +kernel)
set_option maxRecDepth 20000 in
theorem gL_acts_L_low : GoodIn wsL_acts (va_wsS RL 92 yL_low wsL_low) := goodIn_app (goodIn_of _ (by decide +kernel)) ggL_acts_L_low
set_option maxRecDepth 20000 in
theorem ggL_acts_L_makes : GoodIn wsL_acts wsL_makes := goodIn_r _ [9, 10, 11, 4, 12, 13, 14, 15, 16, 17, 18, 19, 20, 21, 22, 23, 24, 25, 26, 27, 28, 29, 30, 31, 32, 33, 34, 35, 36, 37, 38, 39, 40, 41, 42, 43, 44, 45, 46, 47, 48, 49, 50, 51, 52, 53, 54, 55, 56, 57, 58, 59, 60, 61, 62, 63, 64, 65, 66, 67, 68, 69, 70, 71, 72, 73, 74, 75, 76, 77, 78, 79, 80, 81, 82, 83, 84, 85, 86, 87, 88, 89, 90, 91, 92, 93, 94, 95, 96, 97, 98, 99, 100, 101, 102, 103, 104, 105, 106, 107, 108, 109, 110, 111, 112, 113, 114, 115, 116, 117, 118, 119, 120, 121, 122, 123, 124, 125, 126, 127, 128, 129, 130, 131, 132, 133, 134, 135, 136, 137, 138, 139, 140, 141, 142, 143, 144, 145, 146, 147, 148, 149, 150, 342, 343, 344, 345, 346, 347, 348, 349, 350, 351, 352, 353, 354, 355, 356, 357, 358, 359, 360, 361, 362, 363, 364, 365, 366, 367, 368] (by decide +kernel) (by decide +kernel)
set_option maxRecDepth 20000 in
theorem gL_acts_L_makes : GoodIn wsL_acts (va_wsS RL 95 yL_makes wsL_makes) := goodIn_app (goodIn_of _ (by decide +kernel)) ggL_acts_L_makes
set_option maxRecDepth 20000 in
theorem ggL_acts_L_names : GoodIn wsL_acts wsL_names := goodIn_r _ [153, 154, 155, 156, 27, 157, 29, 30, 31, 32, 33, 34, 35, 36, 37, 38, 39, 40, 41, 42, 43, 44, 45, 46, 47, 48, 49, 50, 51, 52, 53, 54, 55, 56, 57, 58, 59, 60, 61, 62, 63, 64, 65, 66, 67, 68, 69, 70, 71, 72, 73, 74, 75, 76, 77, 78, 79, 80, 81, 82, 83, 84, 85, 158, 159, 160, 161, 90, 91, 162, 163, 164, 165, 166, 167, 168, 169, 170, 171, 116, 117, 118, 119, 120, 121, 122, 123, 100, 101, 102, 103, 124, 97, 98, 99, 172, 173, 174, 175, 108, 109, 110, 111, 176, 177, 178, 179, 180, 181, 182, 183, 129, 130, 131, 132, 184, 185, 186, 187, 133, 134, 135, 136, 137, 138, 139, 140, 188, 189, 190, 191, 192, 193, 194, 195, 196, 197, 4, 198, 199, 200, 201, 202, 203, 204, 205, 148, 149, 150, 20, 21, 22, 23, 13, 14, 15, 16, 145, 146, 147, 141, 142, 143, 144, 206, 207, 208, 342, 343, 344, 345, 346, 347, 348, 349, 350, 351, 352, 353, 354, 355, 356, 357, 358, 359, 360, 361, 362, 363, 364, 365, 366, 367, 368] (by decide +kernel) (by decide +kernel)
set_option maxRecDepth 20000 in
theorem gL_acts_L_names : GoodIn wsL_acts (va_wsS RL 99 yL_names wsL_names) := goodIn_app (goodIn_of _ (by decide +kernel)) ggL_acts_L_names
set_option maxRecDepth 20000 in
theorem ggL_acts_X7_drop : GoodIn wsL_acts wsX7_drop := goodIn_r _ [212, 29, 30, 31, 32, 33, 34, 35, 36, 37, 38, 39, 40, 41, 42, 43, 44, 45, 46, 47, 48, 49, 50, 51, 52, 53, 54, 55, 56, 57, 58, 59, 60, 61, 62, 63, 64, 65, 66, 67, 68, 69, 70, 71, 72, 73, 74, 75, 76, 77, 78, 79, 80, 81, 82, 83, 84, 85, 213, 214, 215, 216, 90, 27, 91, 133, 134, 135, 136, 137, 138, 139, 140, 342, 343, 344, 345, 346, 347, 348, 349, 350, 351, 352, 353, 354, 355, 356, 357, 358, 359, 360, 361, 362, 363, 364, 365, 366, 367, 368] (by decide +kernel) (by decide +kernel)
set_option maxRecDepth 20000 in
theorem gL_acts_X7_drop : GoodIn wsL_acts (wsV RL 103 RX7 yX7_drop wsX7_drop) := goodIn_app (goodIn_of _ (by decide +kernel)) ggL_acts_X7_drop
set_option maxRecDepth 20000 in
theorem ggL_acts_X7_begin : GoodIn wsL_acts wsX7_begin := goodIn_r _ [220, 29, 30, 31, 32, 33, 34, 35, 36, 37, 38, 39, 40, 41, 42, 43, 44, 45, 46, 47, 48, 49, 50, 51, 52, 53, 54, 55, 56, 57, 58, 59, 60, 61, 62, 63, 64, 65, 66, 67, 68, 69, 70, 71, 72, 73, 74, 75, 76, 77, 78, 79, 80, 81, 82, 83, 84, 85, 221, 222, 223, 224, 225, 226, 227, 228, 164, 165, 166, 167, 168, 169, 170, 171, 116, 117, 118, 119, 120, 121, 122, 123, 100, 101, 102, 103, 124, 97, 98, 99, 172, 173, 174, 175, 108, 109, 110, 111, 176, 177, 178, 179, 180, 181, 182, 183, 129, 130, 131, 132, 229, 230, 231, 232, 233, 234, 235, 236, 237, 238, 239, 240, 241, 242, 243, 244, 245, 246, 247, 248, 133, 134, 135, 27, 136, 137, 138, 139, 140, 342, 343, 344, 345, 346, 347, 348, 349, 350, 351, 352, 353, 354, 355, 356, 357, 358, 359, 360, 361, 362, 363, 364, 365, 366, 367, 368] (by decide +kernel) (by decide +kernel)
set_option maxRecDepth 20000 in
theorem gL_acts_X7_begin : GoodIn wsL_acts (wsV RL 106 RX7 yX7_begin wsX7_begin) := goodIn_app (goodIn_of _ (by decide +kernel)) ggL_acts_X7_begin
set_option maxRecDepth 20000 in
theorem ggL_acts_L_begins : GoodIn wsL_acts wsL_begins := goodIn_r _ [251, 196, 197, 4, 198, 199, 200, 201, 202, 203, 204, 205, 148, 149, 150, 20, 21, 22, 23, 13, 14, 15, 16, 145, 146, 147, 141, 142, 143, 144, 252, 253, 254, 255] (by decide +kernel) (by decide +kernel)
set_option maxRecDepth 20000 in
theorem gL_acts_L_begins : GoodIn wsL_acts (va_wsS RL 110 yL_begins wsL_begins) := goodIn_app (goodIn_of _ (by decide +kernel)) ggL_acts_L_begins
set_option maxRecDepth 20000 in
theorem ggL_acts_X7_carry : GoodIn wsL_acts wsX7_carry := goodIn_r _ [259, 29, 30, 31, 32, 33, 34, 35, 36, 37, 38, 39, 40, 41, 42, 43, 44, 45, 46, 47, 48, 49, 50, 51, 52, 53, 54, 55, 56, 57, 58, 59, 60, 61, 62, 63, 64, 65, 66, 67, 68, 69, 70, 71, 72, 73, 74, 75, 76, 77, 78, 79, 80, 81, 82, 83, 84, 85, 260, 261, 262, 263, 264, 265, 266, 267, 268, 269, 270, 271, 164, 165, 166, 167, 168, 169, 170, 171, 116, 117, 118, 119, 120, 121, 122, 123, 100, 101, 102, 103, 124, 97, 98, 99, 172, 173, 174, 175, 108, 109, 110, 111, 176, 177, 178, 179, 180, 181, 182, 183, 129, 130, 131, 132, 229, 230, 231, 232, 233, 234, 235, 236, 237, 238, 239, 240, 241, 242, 243, 244, 245, 246, 247, 248, 133, 134, 135, 27, 136, 137, 138, 139, 140, 342, 343, 344, 345, 346, 347, 348, 349, 350, 351, 352, 353, 354, 355, 356, 357, 358, 359, 360, 361, 362, 363, 364, 365, 366, 367, 368] (by decide +kernel) (by decide +kernel)
set_option maxRecDepth 20000 in
theorem gL_acts_X7_carry : GoodIn wsL_acts (wsV RL 114 RX7 yX7_carry wsX7_carry) := goodIn_app (goodIn_of _ (by decide +kernel)) ggL_acts_X7_carry
set_option maxRecDepth 20000 in
theorem ggL_acts_L_step : GoodIn wsL_acts wsL_step := goodIn_r _ [274, 200, 201, 4, 202, 20, 21, 22, 23, 196, 197, 198, 199, 203, 204, 205, 148, 149, 150, 13, 14, 15, 16, 145, 146, 147, 141, 142, 143, 144, 206, 207, 208, 252, 253, 254, 255] (by decide +kernel) (by decide +kernel)
set_option maxRecDepth 20000 in
theorem gL_acts_L_step : GoodIn wsL_acts (va_wsS RL 117 yL_step wsL_step) := goodIn_app (goodIn_of _ (by decide +kernel)) ggL_acts_L_step
set_option maxRecDepth 20000 in
theorem ggL_acts_X7_setHeavy : GoodIn wsL_acts wsX7_setHeavy := goodIn_r _ [278, 29, 30, 31, 32, 33, 34, 35, 36, 37, 38, 39, 40, 41, 42, 43, 44, 45, 46, 47, 48, 49, 50, 51, 52, 53, 54, 55, 56, 57, 58, 59, 60, 61, 62, 63, 64, 65, 66, 67, 68, 69, 70, 71, 72, 73, 74, 75, 76, 77, 78, 79, 80, 81, 82, 83, 84, 85, 279, 280, 281, 282, 133, 134, 135, 27, 136, 137, 138, 139, 140, 342, 343, 344, 345, 346, 347, 348, 349, 350, 351, 352, 353, 354, 355, 356, 357, 358, 359, 360, 361, 362, 363, 364, 365, 366, 367, 368] (by decide +kernel) (by decide +kernel)
set_option maxRecDepth 20000 in
theorem gL_acts_X7_setHeavy : GoodIn wsL_acts (wsV RL 121 RX7 yX7_setHeavy wsX7_setHeavy) := goodIn_app (goodIn_of _ (by decide +kernel)) ggL_acts_X7_setHeavy
set_option maxRecDepth 20000 in
theorem ggL_acts_X7_lose : GoodIn wsL_acts wsX7_lose := goodIn_r _ [286, 29, 30, 31, 32, 33, 34, 35, 36, 37, 38, 39, 40, 41, 42, 43, 44, 45, 46, 47, 48, 49, 50, 51, 52, 53, 54, 55, 56, 57, 58, 59, 60, 61, 62, 63, 64, 65, 66, 67, 68, 69, 70, 71, 72, 73, 74, 75, 76, 77, 78, 79, 80, 81, 82, 83, 84, 85, 287, 288, 289, 290, 291, 292, 293, 294, 295, 296, 297, 298, 299, 300, 301, 302, 100, 101, 102, 103, 120, 121, 122, 123, 108, 109, 110, 111, 112, 113, 114, 115, 116, 117, 118, 119, 124, 97, 98, 99, 303, 304, 305, 306, 133, 134, 135, 27, 136, 137, 138, 139, 140, 342, 343, 344, 345, 346, 347, 348, 349, 350, 351, 352, 353, 354, 355, 356, 357, 358, 359, 360, 361, 362, 363, 364, 365, 366, 367, 368] (by decide +kernel) (by decide +kernel)
set_option maxRecDepth 20000 in
theorem gL_acts_X7_lose : GoodIn wsL_acts (wsV RL 88 RX7 yX7_lose wsX7_lose) := goodIn_app (goodIn_of _ (by decide +kernel)) ggL_acts_X7_lose
set_option maxRecDepth 20000 in
theorem ggL_acts_X7_mend : GoodIn wsL_acts wsX7_mend := goodIn_r _ [310, 29, 30, 31, 32, 33, 34, 35, 36, 37, 38, 39, 40, 41, 42, 43, 44, 45, 46, 47, 48, 49, 50, 51, 52, 53, 54, 55, 56, 57, 58, 59, 60, 61, 62, 63, 64, 65, 66, 67, 68, 69, 70, 71, 72, 73, 74, 75, 76, 77, 78, 79, 80, 81, 82, 83, 84, 85, 311, 312, 313, 314, 291, 292, 293, 294, 315, 316, 317, 318, 299, 300, 301, 302, 100, 101, 102, 103, 168, 169, 170, 171, 116, 117, 118, 119, 319, 320, 321, 322, 323, 324, 242, 243, 244, 325, 326, 327, 328, 329, 330, 331, 332, 133, 134, 135, 27, 136, 137, 138, 139, 140, 342, 343, 344, 345, 346, 347, 348, 349, 350, 351, 352, 353, 354, 355, 356, 357, 358, 359, 360, 361, 362, 363, 364, 365, 366, 367, 368] (by decide +kernel) (by decide +kernel)
set_option maxRecDepth 20000 in
theorem gL_acts_X7_mend : GoodIn wsL_acts (wsV RL 85 RX7 yX7_mend wsX7_mend) := goodIn_app (goodIn_of _ (by decide +kernel)) ggL_acts_X7_mend
set_option maxRecDepth 20000 in
theorem ggL_acts_L_loses : GoodIn wsL_acts wsL_loses := goodIn_r _ [335, 13, 14, 4, 15, 16, 20, 21, 22, 23, 283, 284, 285, 27, 286, 29, 30, 31, 32, 33, 34, 35, 36, 37, 38, 39, 40, 41, 42, 43, 44, 45, 46, 47, 48, 49, 50, 51, 52, 53, 54, 55, 56, 57, 58, 59, 60, 61, 62, 63, 64, 65, 66, 67, 68, 69, 70, 71, 72, 73, 74, 75, 76, 77, 78, 79, 80, 81, 82, 83, 84, 85, 287, 288, 289, 290, 291, 292, 293, 294, 295, 296, 297, 298, 299, 300, 301, 302, 100, 101, 102, 103, 120, 121, 122, 123, 108, 109, 110, 111, 112, 113, 114, 115, 116, 117, 118, 119, 124, 97, 98, 99, 303, 304, 305, 306, 133, 134, 135, 136, 137, 138, 139, 140, 17, 18, 19, 206, 207, 208, 200, 201, 202, 148, 149, 150, 342, 343, 344, 345, 346, 347, 348, 349, 350, 351, 352, 353, 354, 355, 356, 357, 358, 359, 360, 361, 362, 363, 364, 365, 366, 367, 368] (by decide +kernel) (by decide +kernel)
set_option maxRecDepth 20000 in
theorem gL_acts_L_loses : GoodIn wsL_acts (va_wsS RL 124 yL_loses wsL_loses) := goodIn_app (goodIn_of _ (by decide +kernel)) ggL_acts_L_loses
set_option maxRecDepth 20000 in
theorem ggL_acts_L_mends : GoodIn wsL_acts wsL_mends := goodIn_r _ [338, 339, 340, 4, 341, 200, 201, 202, 13, 14, 15, 16, 307, 308, 309, 27, 310, 29, 30, 31, 32, 33, 34, 35, 36, 37, 38, 39, 40, 41, 42, 43, 44, 45, 46, 47, 48, 49, 50, 51, 52, 53, 54, 55, 56, 57, 58, 59, 60, 61, 62, 63, 64, 65, 66, 67, 68, 69, 70, 71, 72, 73, 74, 75, 76, 77, 78, 79, 80, 81, 82, 83, 84, 85, 311, 312, 313, 314, 291, 292, 293, 294, 315, 316, 317, 318, 299, 300, 301, 302, 100, 101, 102, 103, 168, 169, 170, 171, 116, 117, 118, 119, 319, 320, 321, 322, 323, 324, 242, 243, 244, 325, 326, 327, 328, 329, 330, 331, 332, 133, 134, 135, 136, 137, 138, 139, 140, 20, 21, 22, 23, 206, 207, 208, 148, 149, 150, 342, 343, 344, 345, 346, 347, 348, 349, 350, 351, 352, 353, 354, 355, 356, 357, 358, 359, 360, 361, 362, 363, 364, 365, 366, 367, 368] (by decide +kernel) (by decide +kernel)
set_option maxRecDepth 20000 in
theorem gL_acts_L_mends : GoodIn wsL_acts (va_wsS RL 128 yL_mends wsL_mends) := goodIn_app (goodIn_of _ (by decide +kernel)) ggL_acts_L_mends
theorem dL_acts_0 : decode cL_acts 0 = .ok (.iload 8, 2) := by decide +kernel
theorem dL_acts_2 : decode cL_acts 2 = .ok (.iconst 5, 1) := by decide +kernel
theorem dL_acts_3 : decode cL_acts 3 = .ok (.ishr, 1) := by decide +kernel
theorem dL_acts_4 : decode cL_acts 4 = .ok (.ldc 91, 2) := by decide +kernel
theorem dL_acts_6 : decode cL_acts 6 = .ok (.invokestatic 92, 3) := by decide +kernel
theorem dL_acts_9 : decode cL_acts 9 = .ok (.istore 9, 2) := by decide +kernel
theorem dL_acts_11 : decode cL_acts 11 = .ok (.iload 8, 2) := by decide +kernel
theorem dL_acts_13 : decode cL_acts 13 = .ok (.bipush 27, 2) := by decide +kernel
theorem dL_acts_15 : decode cL_acts 15 = .ok (.invokestatic 92, 3) := by decide +kernel
theorem dL_acts_18 : decode cL_acts 18 = .ok (.istore 10, 2) := by decide +kernel
theorem dL_acts_20 : decode cL_acts 20 = .ok (.iload 10, 2) := by decide +kernel
theorem dL_acts_22 : decode cL_acts 22 = .ok (.bipush 8, 2) := by decide +kernel
theorem dL_acts_24 : decode cL_acts 24 = .ok (.if_icmp .ge 19, 3) := by decide +kernel
theorem dL_acts_27 : decode cL_acts 27 = .ok (.aload_n 0, 1) := by decide +kernel
theorem dL_acts_28 : decode cL_acts 28 = .ok (.aload_n 1, 1) := by decide +kernel
theorem dL_acts_29 : decode cL_acts 29 = .ok (.aload_n 2, 1) := by decide +kernel
theorem dL_acts_30 : decode cL_acts 30 = .ok (.aload_n 3, 1) := by decide +kernel
theorem dL_acts_31 : decode cL_acts 31 = .ok (.aload 5, 2) := by decide +kernel
theorem dL_acts_33 : decode cL_acts 33 = .ok (.aload 6, 2) := by decide +kernel
theorem dL_acts_35 : decode cL_acts 35 = .ok (.aload 7, 2) := by decide +kernel
theorem dL_acts_37 : decode cL_acts 37 = .ok (.iload 9, 2) := by decide +kernel
theorem dL_acts_39 : decode cL_acts 39 = .ok (.invokestatic 95, 3) := by decide +kernel
theorem dL_acts_42 : decode cL_acts 42 = .ok (.ireturn, 1) := by decide +kernel
theorem dL_acts_43 : decode cL_acts 43 = .ok (.iload 10, 2) := by decide +kernel
theorem dL_acts_45 : decode cL_acts 45 = .ok (.bipush 16, 2) := by decide +kernel
theorem dL_acts_47 : decode cL_acts 47 = .ok (.if_icmp .ge 33, 3) := by decide +kernel
theorem dL_acts_50 : decode cL_acts 50 = .ok (.aload_n 0, 1) := by decide +kernel
theorem dL_acts_51 : decode cL_acts 51 = .ok (.aload_n 1, 1) := by decide +kernel
theorem dL_acts_52 : decode cL_acts 52 = .ok (.aload_n 2, 1) := by decide +kernel
theorem dL_acts_53 : decode cL_acts 53 = .ok (.aload_n 3, 1) := by decide +kernel
theorem dL_acts_54 : decode cL_acts 54 = .ok (.aload 4, 2) := by decide +kernel
theorem dL_acts_56 : decode cL_acts 56 = .ok (.aload 5, 2) := by decide +kernel
theorem dL_acts_58 : decode cL_acts 58 = .ok (.aload 6, 2) := by decide +kernel
theorem dL_acts_60 : decode cL_acts 60 = .ok (.aload 7, 2) := by decide +kernel
theorem dL_acts_62 : decode cL_acts 62 = .ok (.iload 9, 2) := by decide +kernel
theorem dL_acts_64 : decode cL_acts 64 = .ok (.iload 10, 2) := by decide +kernel
theorem dL_acts_66 : decode cL_acts 66 = .ok (.bipush 13, 2) := by decide +kernel
theorem dL_acts_68 : decode cL_acts 68 = .ok (.if_icmp .ge 7, 3) := by decide +kernel
theorem dL_acts_71 : decode cL_acts 71 = .ok (.iconst 1, 1) := by decide +kernel
theorem dL_acts_72 : decode cL_acts 72 = .ok (.goto 4, 3) := by decide +kernel
theorem dL_acts_75 : decode cL_acts 75 = .ok (.iconst 0, 1) := by decide +kernel
theorem dL_acts_76 : decode cL_acts 76 = .ok (.invokestatic 99, 3) := by decide +kernel
theorem dL_acts_79 : decode cL_acts 79 = .ok (.ireturn, 1) := by decide +kernel
theorem dL_acts_80 : decode cL_acts 80 = .ok (.iload 10, 2) := by decide +kernel
theorem dL_acts_82 : decode cL_acts 82 = .ok (.bipush 18, 2) := by decide +kernel
theorem dL_acts_84 : decode cL_acts 84 = .ok (.if_icmp .ge 52, 3) := by decide +kernel
theorem dL_acts_87 : decode cL_acts 87 = .ok (.aload_n 2, 1) := by decide +kernel
theorem dL_acts_88 : decode cL_acts 88 = .ok (.iload 9, 2) := by decide +kernel
theorem dL_acts_90 : decode cL_acts 90 = .ok (.bipush 8, 2) := by decide +kernel
theorem dL_acts_92 : decode cL_acts 92 = .ok (.irem, 1) := by decide +kernel
theorem dL_acts_93 : decode cL_acts 93 = .ok (.iaload, 1) := by decide +kernel
theorem dL_acts_94 : decode cL_acts 94 = .ok (.istore 11, 2) := by decide +kernel
theorem dL_acts_96 : decode cL_acts 96 = .ok (.aload_n 2, 1) := by decide +kernel
theorem dL_acts_97 : decode cL_acts 97 = .ok (.iload 9, 2) := by decide +kernel
theorem dL_acts_99 : decode cL_acts 99 = .ok (.bipush 8, 2) := by decide +kernel
theorem dL_acts_101 : decode cL_acts 101 = .ok (.irem, 1) := by decide +kernel
theorem dL_acts_102 : decode cL_acts 102 = .ok (.bipush (-9), 2) := by decide +kernel
theorem dL_acts_104 : decode cL_acts 104 = .ok (.iastore, 1) := by decide +kernel
theorem dL_acts_105 : decode cL_acts 105 = .ok (.aload_n 0, 1) := by decide +kernel
theorem dL_acts_106 : decode cL_acts 106 = .ok (.iload 9, 2) := by decide +kernel
theorem dL_acts_108 : decode cL_acts 108 = .ok (.bipush 8, 2) := by decide +kernel
theorem dL_acts_110 : decode cL_acts 110 = .ok (.irem, 1) := by decide +kernel
theorem dL_acts_111 : decode cL_acts 111 = .ok (.invokevirtual 103, 3) := by decide +kernel
theorem dL_acts_114 : decode cL_acts 114 = .ok (.iload 11, 2) := by decide +kernel
theorem dL_acts_116 : decode cL_acts 116 = .ok (.ifCond .ge 9, 3) := by decide +kernel
theorem dL_acts_119 : decode cL_acts 119 = .ok (.sipush 300, 3) := by decide +kernel
theorem dL_acts_122 : decode cL_acts 122 = .ok (.goto 5, 3) := by decide +kernel
theorem dL_acts_125 : decode cL_acts 125 = .ok (.iload 11, 2) := by decide +kernel
theorem dL_acts_127 : decode cL_acts 127 = .ok (.if_icmp .ne 7, 3) := by decide +kernel
theorem dL_acts_130 : decode cL_acts 130 = .ok (.iconst 1, 1) := by decide +kernel
theorem dL_acts_131 : decode cL_acts 131 = .ok (.goto 4, 3) := by decide +kernel
theorem dL_acts_134 : decode cL_acts 134 = .ok (.iconst 0, 1) := by decide +kernel
theorem dL_acts_135 : decode cL_acts 135 = .ok (.ireturn, 1) := by decide +kernel
theorem dL_acts_136 : decode cL_acts 136 = .ok (.iload 10, 2) := by decide +kernel
theorem dL_acts_138 : decode cL_acts 138 = .ok (.bipush 20, 2) := by decide +kernel
theorem dL_acts_140 : decode cL_acts 140 = .ok (.if_icmp .ge 56, 3) := by decide +kernel
theorem dL_acts_143 : decode cL_acts 143 = .ok (.aload_n 1, 1) := by decide +kernel
theorem dL_acts_144 : decode cL_acts 144 = .ok (.iconst 2, 1) := by decide +kernel
theorem dL_acts_145 : decode cL_acts 145 = .ok (.iaload, 1) := by decide +kernel
theorem dL_acts_146 : decode cL_acts 146 = .ok (.iconst 1, 1) := by decide +kernel
theorem dL_acts_147 : decode cL_acts 147 = .ok (.if_icmp .ne 18, 3) := by decide +kernel
theorem dL_acts_150 : decode cL_acts 150 = .ok (.aload_n 0, 1) := by decide +kernel
theorem dL_acts_151 : decode cL_acts 151 = .ok (.invokevirtual 106, 3) := by decide +kernel
theorem dL_acts_154 : decode cL_acts 154 = .ok (.bipush (-2), 2) := by decide +kernel
theorem dL_acts_156 : decode cL_acts 156 = .ok (.if_icmp .ne 7, 3) := by decide +kernel
theorem dL_acts_159 : decode cL_acts 159 = .ok (.iconst 1, 1) := by decide +kernel
theorem dL_acts_160 : decode cL_acts 160 = .ok (.goto 4, 3) := by decide +kernel
theorem dL_acts_163 : decode cL_acts 163 = .ok (.iconst 0, 1) := by decide +kernel
theorem dL_acts_164 : decode cL_acts 164 = .ok (.ireturn, 1) := by decide +kernel
theorem dL_acts_165 : decode cL_acts 165 = .ok (.aload_n 1, 1) := by decide +kernel
theorem dL_acts_166 : decode cL_acts 166 = .ok (.aload_n 2, 1) := by decide +kernel
theorem dL_acts_167 : decode cL_acts 167 = .ok (.aload_n 3, 1) := by decide +kernel
theorem dL_acts_168 : decode cL_acts 168 = .ok (.aload 4, 2) := by decide +kernel
theorem dL_acts_170 : decode cL_acts 170 = .ok (.aload 5, 2) := by decide +kernel
theorem dL_acts_172 : decode cL_acts 172 = .ok (.aload 6, 2) := by decide +kernel
theorem dL_acts_174 : decode cL_acts 174 = .ok (.aload 7, 2) := by decide +kernel
theorem dL_acts_176 : decode cL_acts 176 = .ok (.invokestatic 110, 3) := by decide +kernel
theorem dL_acts_179 : decode cL_acts 179 = .ok (.aload_n 0, 1) := by decide +kernel
theorem dL_acts_180 : decode cL_acts 180 = .ok (.invokevirtual 106, 3) := by decide +kernel
theorem dL_acts_183 : decode cL_acts 183 = .ok (.aload_n 1, 1) := by decide +kernel
theorem dL_acts_184 : decode cL_acts 184 = .ok (.bipush 8, 2) := by decide +kernel
theorem dL_acts_186 : decode cL_acts 186 = .ok (.iaload, 1) := by decide +kernel
theorem dL_acts_187 : decode cL_acts 187 = .ok (.if_icmp .ne 7, 3) := by decide +kernel
theorem dL_acts_190 : decode cL_acts 190 = .ok (.iconst 1, 1) := by decide +kernel
theorem dL_acts_191 : decode cL_acts 191 = .ok (.goto 4, 3) := by decide +kernel
theorem dL_acts_194 : decode cL_acts 194 = .ok (.iconst 0, 1) := by decide +kernel
theorem dL_acts_195 : decode cL_acts 195 = .ok (.ireturn, 1) := by decide +kernel
theorem dL_acts_196 : decode cL_acts 196 = .ok (.iload 10, 2) := by decide +kernel
theorem dL_acts_198 : decode cL_acts 198 = .ok (.bipush 23, 2) := by decide +kernel
theorem dL_acts_200 : decode cL_acts 200 = .ok (.if_icmp .ge 96, 3) := by decide +kernel
theorem dL_acts_203 : decode cL_acts 203 = .ok (.iconst 1, 1) := by decide +kernel
theorem dL_acts_204 : decode cL_acts 204 = .ok (.iload 9, 2) := by decide +kernel
theorem dL_acts_206 : decode cL_acts 206 = .ok (.iconst 4, 1) := by decide +kernel
theorem dL_acts_207 : decode cL_acts 207 = .ok (.irem, 1) := by decide +kernel
theorem dL_acts_208 : decode cL_acts 208 = .ok (.iadd, 1) := by decide +kernel
theorem dL_acts_209 : decode cL_acts 209 = .ok (.istore 11, 2) := by decide +kernel
theorem dL_acts_211 : decode cL_acts 211 = .ok (.aload_n 1, 1) := by decide +kernel
theorem dL_acts_212 : decode cL_acts 212 = .ok (.iconst 2, 1) := by decide +kernel
theorem dL_acts_213 : decode cL_acts 213 = .ok (.iaload, 1) := by decide +kernel
theorem dL_acts_214 : decode cL_acts 214 = .ok (.ifCond .ne 29, 3) := by decide +kernel
theorem dL_acts_217 : decode cL_acts 217 = .ok (.aload_n 0, 1) := by decide +kernel
theorem dL_acts_218 : decode cL_acts 218 = .ok (.iload 11, 2) := by decide +kernel
theorem dL_acts_220 : decode cL_acts 220 = .ok (.invokevirtual 114, 3) := by decide +kernel
theorem dL_acts_223 : decode cL_acts 223 = .ok (.bipush (-2), 2) := by decide +kernel
theorem dL_acts_225 : decode cL_acts 225 = .ok (.if_icmp .ne 16, 3) := by decide +kernel
theorem dL_acts_228 : decode cL_acts 228 = .ok (.aload_n 0, 1) := by decide +kernel
theorem dL_acts_229 : decode cL_acts 229 = .ok (.iconst 0, 1) := by decide +kernel
theorem dL_acts_230 : decode cL_acts 230 = .ok (.invokevirtual 114, 3) := by decide +kernel
theorem dL_acts_233 : decode cL_acts 233 = .ok (.iconst (-1), 1) := by decide +kernel
theorem dL_acts_234 : decode cL_acts 234 = .ok (.if_icmp .ne 7, 3) := by decide +kernel
theorem dL_acts_237 : decode cL_acts 237 = .ok (.iconst 1, 1) := by decide +kernel
theorem dL_acts_238 : decode cL_acts 238 = .ok (.goto 4, 3) := by decide +kernel
theorem dL_acts_241 : decode cL_acts 241 = .ok (.iconst 0, 1) := by decide +kernel
theorem dL_acts_242 : decode cL_acts 242 = .ok (.ireturn, 1) := by decide +kernel
theorem dL_acts_243 : decode cL_acts 243 = .ok (.iconst 0, 1) := by decide +kernel
theorem dL_acts_244 : decode cL_acts 244 = .ok (.istore 12, 2) := by decide +kernel
theorem dL_acts_246 : decode cL_acts 246 = .ok (.iload 12, 2) := by decide +kernel
theorem dL_acts_248 : decode cL_acts 248 = .ok (.iload 11, 2) := by decide +kernel
theorem dL_acts_250 : decode cL_acts 250 = .ok (.if_icmp .ge 29, 3) := by decide +kernel
theorem dL_acts_253 : decode cL_acts 253 = .ok (.aload_n 1, 1) := by decide +kernel
theorem dL_acts_254 : decode cL_acts 254 = .ok (.iconst 2, 1) := by decide +kernel
theorem dL_acts_255 : decode cL_acts 255 = .ok (.iaload, 1) := by decide +kernel
theorem dL_acts_256 : decode cL_acts 256 = .ok (.iconst 1, 1) := by decide +kernel
theorem dL_acts_257 : decode cL_acts 257 = .ok (.if_icmp .ne 22, 3) := by decide +kernel
theorem dL_acts_260 : decode cL_acts 260 = .ok (.aload_n 1, 1) := by decide +kernel
theorem dL_acts_261 : decode cL_acts 261 = .ok (.aload_n 3, 1) := by decide +kernel
theorem dL_acts_262 : decode cL_acts 262 = .ok (.aload 4, 2) := by decide +kernel
theorem dL_acts_264 : decode cL_acts 264 = .ok (.aload 5, 2) := by decide +kernel
theorem dL_acts_266 : decode cL_acts 266 = .ok (.aload 6, 2) := by decide +kernel
theorem dL_acts_268 : decode cL_acts 268 = .ok (.aload 7, 2) := by decide +kernel
theorem dL_acts_270 : decode cL_acts 270 = .ok (.invokestatic 117, 3) := by decide +kernel
theorem dL_acts_273 : decode cL_acts 273 = .ok (.iinc 12 1, 3) := by decide +kernel
theorem dL_acts_276 : decode cL_acts 276 = .ok (.goto (-30), 3) := by decide +kernel
theorem dL_acts_279 : decode cL_acts 279 = .ok (.aload_n 0, 1) := by decide +kernel
theorem dL_acts_280 : decode cL_acts 280 = .ok (.iload 11, 2) := by decide +kernel
theorem dL_acts_282 : decode cL_acts 282 = .ok (.invokevirtual 114, 3) := by decide +kernel
theorem dL_acts_285 : decode cL_acts 285 = .ok (.iload 12, 2) := by decide +kernel
theorem dL_acts_287 : decode cL_acts 287 = .ok (.if_icmp .ne 7, 3) := by decide +kernel
theorem dL_acts_290 : decode cL_acts 290 = .ok (.iconst 1, 1) := by decide +kernel
theorem dL_acts_291 : decode cL_acts 291 = .ok (.goto 4, 3) := by decide +kernel
theorem dL_acts_294 : decode cL_acts 294 = .ok (.iconst 0, 1) := by decide +kernel
theorem dL_acts_295 : decode cL_acts 295 = .ok (.ireturn, 1) := by decide +kernel
theorem dL_acts_296 : decode cL_acts 296 = .ok (.iload 10, 2) := by decide +kernel
theorem dL_acts_298 : decode cL_acts 298 = .ok (.bipush 23, 2) := by decide +kernel
theorem dL_acts_300 : decode cL_acts 300 = .ok (.if_icmp .ne 36, 3) := by decide +kernel
theorem dL_acts_303 : decode cL_acts 303 = .ok (.aload_n 1, 1) := by decide +kernel
theorem dL_acts_304 : decode cL_acts 304 = .ok (.iconst 1, 1) := by decide +kernel
theorem dL_acts_305 : decode cL_acts 305 = .ok (.iaload, 1) := by decide +kernel
theorem dL_acts_306 : decode cL_acts 306 = .ok (.istore 11, 2) := by decide +kernel
theorem dL_acts_308 : decode cL_acts 308 = .ok (.aload_n 1, 1) := by decide +kernel
theorem dL_acts_309 : decode cL_acts 309 = .ok (.iconst 1, 1) := by decide +kernel
theorem dL_acts_310 : decode cL_acts 310 = .ok (.iconst 2, 1) := by decide +kernel
theorem dL_acts_311 : decode cL_acts 311 = .ok (.iload 9, 2) := by decide +kernel
theorem dL_acts_313 : decode cL_acts 313 = .ok (.bipush 12, 2) := by decide +kernel
theorem dL_acts_315 : decode cL_acts 315 = .ok (.irem, 1) := by decide +kernel
theorem dL_acts_316 : decode cL_acts 316 = .ok (.iadd, 1) := by decide +kernel
theorem dL_acts_317 : decode cL_acts 317 = .ok (.iastore, 1) := by decide +kernel
theorem dL_acts_318 : decode cL_acts 318 = .ok (.aload_n 0, 1) := by decide +kernel
theorem dL_acts_319 : decode cL_acts 319 = .ok (.aload_n 1, 1) := by decide +kernel
theorem dL_acts_320 : decode cL_acts 320 = .ok (.iconst 1, 1) := by decide +kernel
theorem dL_acts_321 : decode cL_acts 321 = .ok (.iaload, 1) := by decide +kernel
theorem dL_acts_322 : decode cL_acts 322 = .ok (.invokevirtual 121, 3) := by decide +kernel
theorem dL_acts_325 : decode cL_acts 325 = .ok (.iload 11, 2) := by decide +kernel
theorem dL_acts_327 : decode cL_acts 327 = .ok (.if_icmp .ne 7, 3) := by decide +kernel
theorem dL_acts_330 : decode cL_acts 330 = .ok (.iconst 1, 1) := by decide +kernel
theorem dL_acts_331 : decode cL_acts 331 = .ok (.goto 4, 3) := by decide +kernel
theorem dL_acts_334 : decode cL_acts 334 = .ok (.iconst 0, 1) := by decide +kernel
theorem dL_acts_335 : decode cL_acts 335 = .ok (.ireturn, 1) := by decide +kernel
theorem dL_acts_336 : decode cL_acts 336 = .ok (.aload_n 1, 1) := by decide +kernel
theorem dL_acts_337 : decode cL_acts 337 = .ok (.iconst 0, 1) := by decide +kernel
theorem dL_acts_338 : decode cL_acts 338 = .ok (.iaload, 1) := by decide +kernel
theorem dL_acts_339 : decode cL_acts 339 = .ok (.ifCond .ne 7, 3) := by decide +kernel
theorem dL_acts_342 : decode cL_acts 342 = .ok (.iconst 0, 1) := by decide +kernel
theorem dL_acts_343 : decode cL_acts 343 = .ok (.goto 9, 3) := by decide +kernel
theorem dL_acts_346 : decode cL_acts 346 = .ok (.iload 9, 2) := by decide +kernel
theorem dL_acts_348 : decode cL_acts 348 = .ok (.aload_n 1, 1) := by decide +kernel
theorem dL_acts_349 : decode cL_acts 349 = .ok (.iconst 0, 1) := by decide +kernel
theorem dL_acts_350 : decode cL_acts 350 = .ok (.iaload, 1) := by decide +kernel
theorem dL_acts_351 : decode cL_acts 351 = .ok (.irem, 1) := by decide +kernel
theorem dL_acts_352 : decode cL_acts 352 = .ok (.istore 11, 2) := by decide +kernel
theorem dL_acts_354 : decode cL_acts 354 = .ok (.aload_n 1, 1) := by decide +kernel
theorem dL_acts_355 : decode cL_acts 355 = .ok (.iconst 0, 1) := by decide +kernel
theorem dL_acts_356 : decode cL_acts 356 = .ok (.iaload, 1) := by decide +kernel
theorem dL_acts_357 : decode cL_acts 357 = .ok (.ifCond .ne 27, 3) := by decide +kernel
theorem dL_acts_360 : decode cL_acts 360 = .ok (.aload_n 0, 1) := by decide +kernel
theorem dL_acts_361 : decode cL_acts 361 = .ok (.iconst 0, 1) := by decide +kernel
theorem dL_acts_362 : decode cL_acts 362 = .ok (.invokevirtual 88, 3) := by decide +kernel
theorem dL_acts_365 : decode cL_acts 365 = .ok (.iconst (-1), 1) := by decide +kernel
theorem dL_acts_366 : decode cL_acts 366 = .ok (.if_icmp .ne 16, 3) := by decide +kernel
theorem dL_acts_369 : decode cL_acts 369 = .ok (.aload_n 0, 1) := by decide +kernel
theorem dL_acts_370 : decode cL_acts 370 = .ok (.iconst 0, 1) := by decide +kernel
theorem dL_acts_371 : decode cL_acts 371 = .ok (.invokevirtual 85, 3) := by decide +kernel
theorem dL_acts_374 : decode cL_acts 374 = .ok (.iconst (-1), 1) := by decide +kernel
theorem dL_acts_375 : decode cL_acts 375 = .ok (.if_icmp .ne 7, 3) := by decide +kernel
theorem dL_acts_378 : decode cL_acts 378 = .ok (.iconst 1, 1) := by decide +kernel
theorem dL_acts_379 : decode cL_acts 379 = .ok (.goto 4, 3) := by decide +kernel
theorem dL_acts_382 : decode cL_acts 382 = .ok (.iconst 0, 1) := by decide +kernel
theorem dL_acts_383 : decode cL_acts 383 = .ok (.ireturn, 1) := by decide +kernel
theorem dL_acts_384 : decode cL_acts 384 = .ok (.iload 10, 2) := by decide +kernel
theorem dL_acts_386 : decode cL_acts 386 = .ok (.bipush 26, 2) := by decide +kernel
theorem dL_acts_388 : decode cL_acts 388 = .ok (.if_icmp .ge 20, 3) := by decide +kernel
theorem dL_acts_391 : decode cL_acts 391 = .ok (.aload_n 0, 1) := by decide +kernel
theorem dL_acts_392 : decode cL_acts 392 = .ok (.aload_n 1, 1) := by decide +kernel
theorem dL_acts_393 : decode cL_acts 393 = .ok (.aload_n 3, 1) := by decide +kernel
theorem dL_acts_394 : decode cL_acts 394 = .ok (.aload 5, 2) := by decide +kernel
theorem dL_acts_396 : decode cL_acts 396 = .ok (.aload 6, 2) := by decide +kernel
theorem dL_acts_398 : decode cL_acts 398 = .ok (.aload 7, 2) := by decide +kernel
theorem dL_acts_400 : decode cL_acts 400 = .ok (.iload 11, 2) := by decide +kernel
theorem dL_acts_402 : decode cL_acts 402 = .ok (.invokestatic 124, 3) := by decide +kernel
theorem dL_acts_405 : decode cL_acts 405 = .ok (.goto 17, 3) := by decide +kernel
theorem dL_acts_408 : decode cL_acts 408 = .ok (.aload_n 0, 1) := by decide +kernel
theorem dL_acts_409 : decode cL_acts 409 = .ok (.aload_n 1, 1) := by decide +kernel
theorem dL_acts_410 : decode cL_acts 410 = .ok (.aload_n 2, 1) := by decide +kernel
theorem dL_acts_411 : decode cL_acts 411 = .ok (.aload 5, 2) := by decide +kernel
theorem dL_acts_413 : decode cL_acts 413 = .ok (.aload 6, 2) := by decide +kernel
theorem dL_acts_415 : decode cL_acts 415 = .ok (.aload 7, 2) := by decide +kernel
theorem dL_acts_417 : decode cL_acts 417 = .ok (.iload 11, 2) := by decide +kernel
theorem dL_acts_419 : decode cL_acts 419 = .ok (.invokestatic 128, 3) := by decide +kernel
theorem dL_acts_422 : decode cL_acts 422 = .ok (.ireturn, 1) := by decide +kernel
set_option maxRecDepth 20000 in
theorem ggL_isSo_X7_hook : GoodIn wsL_isSo wsX7_hook := goodIn_r _ [5, 6, 7, 8, 4, 9, 10, 11, 12, 13, 14, 15, 16, 17, 18, 167, 168, 169, 170, 171, 172, 173, 174, 175, 176, 177, 178, 179, 180, 181, 182] (by decide +kernel) (by decide +kernel)
set_option maxRecDepth 20000 in
theorem gL_isSo_X7_hook : GoodIn wsL_isSo (wsV RL 131 RX7 yX7_hook wsX7_hook) := goodIn_app (goodIn_of _ (by decide +kernel)) ggL_isSo_X7_hook
set_option maxRecDepth 20000 in
theorem ggL_isSo_L_address : GoodIn wsL_isSo wsL_address := goodIn_r _ [22] (by decide +kernel) (by decide +kernel)
set_option maxRecDepth 20000 in
theorem gL_isSo_L_address : GoodIn wsL_isSo (va_wsS RL 81 yL_address wsL_address) := goodIn_app (goodIn_of _ (by decide +kernel)) ggL_isSo_L_address
set_option maxRecDepth 20000 in
theorem ggL_isSo_L_at : GoodIn wsL_isSo wsL_at := goodIn_r _ [25] (by decide +kernel) (by decide +kernel)
set_option maxRecDepth 20000 in
theorem gL_isSo_L_at : GoodIn wsL_isSo (va_wsS RL 33 yL_at wsL_at) := goodIn_app (goodIn_of _ (by decide +kernel)) ggL_isSo_L_at
set_option maxRecDepth 20000 in
theorem ggL_isSo_X7_copy : GoodIn wsL_isSo wsX7_copy := goodIn_r _ [29, 6, 30, 31, 32, 33, 34, 35, 36, 37, 38, 39, 40, 41, 42, 43, 44, 45, 46, 47, 48, 49, 50, 16, 17, 4, 18, 51, 52, 53, 54, 55, 56, 57, 58, 59, 60, 61, 62, 167, 168, 169, 170, 171, 172, 173, 174, 175, 176, 177, 178, 179, 180, 181, 182, 183, 184, 185, 186, 187] (by decide +kernel) (by decide +kernel)
set_option maxRecDepth 20000 in
theorem gL_isSo_X7_copy : GoodIn wsL_isSo (wsV RL 134 RX7 yX7_copy wsX7_copy) := goodIn_app (goodIn_of _ (by decide +kernel)) ggL_isSo_X7_copy
set_option maxRecDepth 20000 in
theorem ggL_isSo_L_thing : GoodIn wsL_isSo wsL_thing := goodIn_r _ [65, 66] (by decide +kernel) (by decide +kernel)
set_option maxRecDepth 20000 in
theorem gL_isSo_L_thing : GoodIn wsL_isSo (va_wsS RL 21 yL_thing wsL_thing) := goodIn_app (goodIn_of _ (by decide +kernel)) ggL_isSo_L_thing
set_option maxRecDepth 20000 in
theorem ggL_isSo_L_name : GoodIn wsL_isSo wsL_name := goodIn_r _ [69, 70] (by decide +kernel) (by decide +kernel)
set_option maxRecDepth 20000 in
theorem gL_isSo_L_name : GoodIn wsL_isSo (va_wsS RL 15 yL_name wsL_name) := goodIn_app (goodIn_of _ (by decide +kernel)) ggL_isSo_L_name
set_option maxRecDepth 20000 in
theorem ggL_isSo_L_mark : GoodIn wsL_isSo wsL_mark := goodIn_r _ [73] (by decide +kernel) (by decide +kernel)
set_option maxRecDepth 20000 in
theorem gL_isSo_L_mark : GoodIn wsL_isSo (va_wsS RL 37 yL_mark wsL_mark) := goodIn_app (goodIn_of _ (by decide +kernel)) ggL_isSo_L_mark
set_option maxRecDepth 20000 in
theorem ggL_isSo_X7_where : GoodIn wsL_isSo wsX7_where := goodIn_r _ [77, 6, 78, 79, 80, 13, 81, 82, 83, 84, 85, 33, 86, 87, 88, 89, 90, 40, 41, 31, 32, 34, 35, 16, 17, 4, 18, 167, 168, 169, 170, 171, 172, 173, 174, 175, 176, 177, 178, 179, 180, 181, 182, 183, 184, 185, 186, 187] (by decide +kernel) (by decide +kernel)
set_option maxRecDepth 20000 in
theorem gL_isSo_X7_where : GoodIn wsL_isSo (wsV RL 137 RX7 yX7_where wsX7_where) := goodIn_app (goodIn_of _ (by decide +kernel)) ggL_isSo_X7_where
set_option maxRecDepth 20000 in
theorem ggL_isSo_X7_count : GoodIn wsL_isSo wsX7_count := goodIn_r _ [94, 95, 96, 6, 97, 98, 99, 100, 101, 102, 103, 104, 105, 106, 107, 108, 109, 110, 111, 13, 112, 82, 113, 114, 115, 116, 117, 118, 119, 120, 121, 122, 33, 123, 41, 31, 32, 34, 35, 124, 125, 126, 127, 128, 129, 130, 131, 132, 133, 43, 44, 45, 134, 135, 136, 137, 138, 139, 140, 141, 142, 143, 144, 145, 146, 147, 148, 149, 47, 48, 49, 50, 150, 151, 152, 153, 154, 155, 156, 157, 158, 159, 88, 89, 90, 40, 160, 161, 162, 163, 167, 168, 169, 170, 171, 172, 188, 189, 190, 191, 192, 173, 174, 175, 176, 177, 178, 179, 180, 181, 182, 183, 184, 185, 186, 187, 193, 194, 195] (by decide +kernel) (by decide +kernel)
set_option maxRecDepth 20000 in
theorem gL_isSo_X7_count : GoodIn wsL_isSo (wsV RL 140 RX7 yX7_count wsX7_count) := goodIn_app (goodIn_of _ (by decide +kernel)) ggL_isSo_X7_count
set_option maxRecDepth 20000 in
theorem ggL_isSo_L_kept : GoodIn wsL_isSo wsL_kept := goodIn_r _ [166, 67, 68, 21, 69, 70, 63, 64, 65, 66] (by decide +kernel) (by decide +kernel)
set_option maxRecDepth 20000 in
theorem gL_isSo_L_kept : GoodIn wsL_isSo (va_wsS RL 64 yL_kept wsL_kept) := goodIn_app (goodIn_of _ (by decide +kernel)) ggL_isSo_L_kept
theorem dL_isSo_0 : decode cL_isSo 0 = .ok (.iconst 0, 1) := by decide +kernel
theorem dL_isSo_1 : decode cL_isSo 1 = .ok (.istore 7, 2) := by decide +kernel
theorem dL_isSo_3 : decode cL_isSo 3 = .ok (.bipush 60, 2) := by decide +kernel
theorem dL_isSo_5 : decode cL_isSo 5 = .ok (.istore 8, 2) := by decide +kernel
theorem dL_isSo_7 : decode cL_isSo 7 = .ok (.iconst 0, 1) := by decide +kernel
theorem dL_isSo_8 : decode cL_isSo 8 = .ok (.istore 9, 2) := by decide +kernel
theorem dL_isSo_10 : decode cL_isSo 10 = .ok (.iconst 1, 1) := by decide +kernel
theorem dL_isSo_11 : decode cL_isSo 11 = .ok (.istore 10, 2) := by decide +kernel
theorem dL_isSo_13 : decode cL_isSo 13 = .ok (.iconst 0, 1) := by decide +kernel
theorem dL_isSo_14 : decode cL_isSo 14 = .ok (.istore 11, 2) := by decide +kernel
theorem dL_isSo_16 : decode cL_isSo 16 = .ok (.iload 11, 2) := by decide +kernel
