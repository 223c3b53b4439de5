theorem dL_isSo_18 : decode cL_isSo 18 = .ok (.bipush 8, 2) := by decide +kernel
theorem dL_isSo_20 : decode cL_isSo 20 = .ok (.if_icmp .ge 34, 3) := by decide +kernel
theorem dL_isSo_23 : decode cL_isSo 23 = .ok (.iload 10, 2) := by decide +kernel
theorem dL_isSo_25 : decode cL_isSo 25 = .ok (.ifCond .eq 20, 3) := by decide +kernel
theorem dL_isSo_28 : decode cL_isSo 28 = .ok (.aload_n 0, 1) := by decide +kernel
theorem dL_isSo_29 : decode cL_isSo 29 = .ok (.iload 11, 2) := by decide +kernel
theorem dL_isSo_31 : decode cL_isSo 31 = .ok (.invokevirtual 131, 3) := by decide +kernel
theorem dL_isSo_34 : decode cL_isSo 34 = .ok (.aload_n 2, 1) := by decide +kernel
theorem dL_isSo_35 : decode cL_isSo 35 = .ok (.iload 11, 2) := by decide +kernel
theorem dL_isSo_37 : decode cL_isSo 37 = .ok (.iaload, 1) := by decide +kernel
theorem dL_isSo_38 : decode cL_isSo 38 = .ok (.if_icmp .ne 7, 3) := by decide +kernel
theorem dL_isSo_41 : decode cL_isSo 41 = .ok (.iconst 1, 1) := by decide +kernel
theorem dL_isSo_42 : decode cL_isSo 42 = .ok (.goto 4, 3) := by decide +kernel
theorem dL_isSo_45 : decode cL_isSo 45 = .ok (.iconst 0, 1) := by decide +kernel
theorem dL_isSo_46 : decode cL_isSo 46 = .ok (.istore 10, 2) := by decide +kernel
theorem dL_isSo_48 : decode cL_isSo 48 = .ok (.iinc 11 1, 3) := by decide +kernel
theorem dL_isSo_51 : decode cL_isSo 51 = .ok (.goto (-35), 3) := by decide +kernel
theorem dL_isSo_54 : decode cL_isSo 54 = .ok (.iconst 0, 1) := by decide +kernel
theorem dL_isSo_55 : decode cL_isSo 55 = .ok (.istore 11, 2) := by decide +kernel
theorem dL_isSo_57 : decode cL_isSo 57 = .ok (.iload 11, 2) := by decide +kernel
theorem dL_isSo_59 : decode cL_isSo 59 = .ok (.sipush 188, 3) := by decide +kernel
theorem dL_isSo_62 : decode cL_isSo 62 = .ok (.if_icmp .ge 273, 3) := by decide +kernel
theorem dL_isSo_65 : decode cL_isSo 65 = .ok (.iload 10, 2) := by decide +kernel
theorem dL_isSo_67 : decode cL_isSo 67 = .ok (.ifCond .eq 268, 3) := by decide +kernel
theorem dL_isSo_70 : decode cL_isSo 70 = .ok (.iload 11, 2) := by decide +kernel
theorem dL_isSo_72 : decode cL_isSo 72 = .ok (.invokestatic 81, 3) := by decide +kernel
theorem dL_isSo_75 : decode cL_isSo 75 = .ok (.istore 12, 2) := by decide +kernel
theorem dL_isSo_77 : decode cL_isSo 77 = .ok (.aload 4, 2) := by decide +kernel
theorem dL_isSo_79 : decode cL_isSo 79 = .ok (.aload 5, 2) := by decide +kernel
theorem dL_isSo_81 : decode cL_isSo 81 = .ok (.aload 6, 2) := by decide +kernel
theorem dL_isSo_83 : decode cL_isSo 83 = .ok (.iload 12, 2) := by decide +kernel
theorem dL_isSo_85 : decode cL_isSo 85 = .ok (.invokestatic 33, 3) := by decide +kernel
theorem dL_isSo_88 : decode cL_isSo 88 = .ok (.lstore 13, 2) := by decide +kernel
theorem dL_isSo_90 : decode cL_isSo 90 = .ok (.lload 13, 2) := by decide +kernel
theorem dL_isSo_92 : decode cL_isSo 92 = .ok (.lconst 0, 1) := by decide +kernel
theorem dL_isSo_93 : decode cL_isSo 93 = .ok (.lcmp, 1) := by decide +kernel
theorem dL_isSo_94 : decode cL_isSo 94 = .ok (.ifCond .ne 24, 3) := by decide +kernel
theorem dL_isSo_97 : decode cL_isSo 97 = .ok (.aload_n 0, 1) := by decide +kernel
theorem dL_isSo_98 : decode cL_isSo 98 = .ok (.iload 12, 2) := by decide +kernel
theorem dL_isSo_100 : decode cL_isSo 100 = .ok (.iconst 0, 1) := by decide +kernel
theorem dL_isSo_101 : decode cL_isSo 101 = .ok (.invokevirtual 134, 3) := by decide +kernel
theorem dL_isSo_104 : decode cL_isSo 104 = .ok (.iconst (-1), 1) := by decide +kernel
theorem dL_isSo_105 : decode cL_isSo 105 = .ok (.if_icmp .ne 7, 3) := by decide +kernel
theorem dL_isSo_108 : decode cL_isSo 108 = .ok (.iconst 1, 1) := by decide +kernel
theorem dL_isSo_109 : decode cL_isSo 109 = .ok (.goto 4, 3) := by decide +kernel
theorem dL_isSo_112 : decode cL_isSo 112 = .ok (.iconst 0, 1) := by decide +kernel
theorem dL_isSo_113 : decode cL_isSo 113 = .ok (.istore 10, 2) := by decide +kernel
theorem dL_isSo_115 : decode cL_isSo 115 = .ok (.goto 214, 3) := by decide +kernel
theorem dL_isSo_118 : decode cL_isSo 118 = .ok (.iinc 7 1, 3) := by decide +kernel
theorem dL_isSo_121 : decode cL_isSo 121 = .ok (.iload 8, 2) := by decide +kernel
theorem dL_isSo_123 : decode cL_isSo 123 = .ok (.iload 12, 2) := by decide +kernel
theorem dL_isSo_125 : decode cL_isSo 125 = .ok (.sipush 200, 3) := by decide +kernel
theorem dL_isSo_128 : decode cL_isSo 128 = .ok (.if_icmp .ge 7, 3) := by decide +kernel
theorem dL_isSo_131 : decode cL_isSo 131 = .ok (.iconst 0, 1) := by decide +kernel
theorem dL_isSo_132 : decode cL_isSo 132 = .ok (.goto 10, 3) := by decide +kernel
theorem dL_isSo_135 : decode cL_isSo 135 = .ok (.aload_n 3, 1) := by decide +kernel
theorem dL_isSo_136 : decode cL_isSo 136 = .ok (.lload 13, 2) := by decide +kernel
theorem dL_isSo_138 : decode cL_isSo 138 = .ok (.invokestatic 21, 3) := by decide +kernel
theorem dL_isSo_141 : decode cL_isSo 141 = .ok (.iaload, 1) := by decide +kernel
theorem dL_isSo_142 : decode cL_isSo 142 = .ok (.isub, 1) := by decide +kernel
theorem dL_isSo_143 : decode cL_isSo 143 = .ok (.istore 8, 2) := by decide +kernel
theorem dL_isSo_145 : decode cL_isSo 145 = .ok (.aload_n 0, 1) := by decide +kernel
theorem dL_isSo_146 : decode cL_isSo 146 = .ok (.iload 12, 2) := by decide +kernel
theorem dL_isSo_148 : decode cL_isSo 148 = .ok (.iconst 0, 1) := by decide +kernel
theorem dL_isSo_149 : decode cL_isSo 149 = .ok (.invokevirtual 134, 3) := by decide +kernel
theorem dL_isSo_152 : decode cL_isSo 152 = .ok (.lload 13, 2) := by decide +kernel
theorem dL_isSo_154 : decode cL_isSo 154 = .ok (.invokestatic 21, 3) := by decide +kernel
theorem dL_isSo_157 : decode cL_isSo 157 = .ok (.if_icmp .ne 99, 3) := by decide +kernel
theorem dL_isSo_160 : decode cL_isSo 160 = .ok (.aload_n 0, 1) := by decide +kernel
theorem dL_isSo_161 : decode cL_isSo 161 = .ok (.iload 12, 2) := by decide +kernel
theorem dL_isSo_163 : decode cL_isSo 163 = .ok (.iconst 1, 1) := by decide +kernel
theorem dL_isSo_164 : decode cL_isSo 164 = .ok (.invokevirtual 134, 3) := by decide +kernel
theorem dL_isSo_167 : decode cL_isSo 167 = .ok (.aload_n 3, 1) := by decide +kernel
theorem dL_isSo_168 : decode cL_isSo 168 = .ok (.lload 13, 2) := by decide +kernel
theorem dL_isSo_170 : decode cL_isSo 170 = .ok (.invokestatic 21, 3) := by decide +kernel
theorem dL_isSo_173 : decode cL_isSo 173 = .ok (.iaload, 1) := by decide +kernel
theorem dL_isSo_174 : decode cL_isSo 174 = .ok (.if_icmp .ne 82, 3) := by decide +kernel
theorem dL_isSo_177 : decode cL_isSo 177 = .ok (.aload_n 0, 1) := by decide +kernel
theorem dL_isSo_178 : decode cL_isSo 178 = .ok (.iload 12, 2) := by decide +kernel
theorem dL_isSo_180 : decode cL_isSo 180 = .ok (.iconst 2, 1) := by decide +kernel
theorem dL_isSo_181 : decode cL_isSo 181 = .ok (.invokevirtual 134, 3) := by decide +kernel
theorem dL_isSo_184 : decode cL_isSo 184 = .ok (.lload 13, 2) := by decide +kernel
theorem dL_isSo_186 : decode cL_isSo 186 = .ok (.iconst 2, 1) := by decide +kernel
theorem dL_isSo_187 : decode cL_isSo 187 = .ok (.invokestatic 15, 3) := by decide +kernel
theorem dL_isSo_190 : decode cL_isSo 190 = .ok (.if_icmp .ne 66, 3) := by decide +kernel
theorem dL_isSo_193 : decode cL_isSo 193 = .ok (.aload_n 0, 1) := by decide +kernel
theorem dL_isSo_194 : decode cL_isSo 194 = .ok (.iload 12, 2) := by decide +kernel
theorem dL_isSo_196 : decode cL_isSo 196 = .ok (.iconst 3, 1) := by decide +kernel
theorem dL_isSo_197 : decode cL_isSo 197 = .ok (.invokevirtual 134, 3) := by decide +kernel
theorem dL_isSo_200 : decode cL_isSo 200 = .ok (.lload 13, 2) := by decide +kernel
theorem dL_isSo_202 : decode cL_isSo 202 = .ok (.invokestatic 37, 3) := by decide +kernel
theorem dL_isSo_205 : decode cL_isSo 205 = .ok (.if_icmp .ne 51, 3) := by decide +kernel
theorem dL_isSo_208 : decode cL_isSo 208 = .ok (.aload_n 0, 1) := by decide +kernel
theorem dL_isSo_209 : decode cL_isSo 209 = .ok (.iload 12, 2) := by decide +kernel
theorem dL_isSo_211 : decode cL_isSo 211 = .ok (.iconst 4, 1) := by decide +kernel
theorem dL_isSo_212 : decode cL_isSo 212 = .ok (.invokevirtual 134, 3) := by decide +kernel
theorem dL_isSo_215 : decode cL_isSo 215 = .ok (.lload 13, 2) := by decide +kernel
theorem dL_isSo_217 : decode cL_isSo 217 = .ok (.iconst 0, 1) := by decide +kernel
theorem dL_isSo_218 : decode cL_isSo 218 = .ok (.invokestatic 15, 3) := by decide +kernel
theorem dL_isSo_221 : decode cL_isSo 221 = .ok (.if_icmp .ne 35, 3) := by decide +kernel
theorem dL_isSo_224 : decode cL_isSo 224 = .ok (.aload_n 0, 1) := by decide +kernel
theorem dL_isSo_225 : decode cL_isSo 225 = .ok (.iload 12, 2) := by decide +kernel
theorem dL_isSo_227 : decode cL_isSo 227 = .ok (.iconst 5, 1) := by decide +kernel
theorem dL_isSo_228 : decode cL_isSo 228 = .ok (.invokevirtual 134, 3) := by decide +kernel
theorem dL_isSo_231 : decode cL_isSo 231 = .ok (.lload 13, 2) := by decide +kernel
theorem dL_isSo_233 : decode cL_isSo 233 = .ok (.iconst 1, 1) := by decide +kernel
theorem dL_isSo_234 : decode cL_isSo 234 = .ok (.invokestatic 15, 3) := by decide +kernel
theorem dL_isSo_237 : decode cL_isSo 237 = .ok (.if_icmp .ne 19, 3) := by decide +kernel
theorem dL_isSo_240 : decode cL_isSo 240 = .ok (.aload_n 0, 1) := by decide +kernel
theorem dL_isSo_241 : decode cL_isSo 241 = .ok (.iload 12, 2) := by decide +kernel
theorem dL_isSo_243 : decode cL_isSo 243 = .ok (.bipush 6, 2) := by decide +kernel
theorem dL_isSo_245 : decode cL_isSo 245 = .ok (.invokevirtual 134, 3) := by decide +kernel
theorem dL_isSo_248 : decode cL_isSo 248 = .ok (.iconst (-1), 1) := by decide +kernel
theorem dL_isSo_249 : decode cL_isSo 249 = .ok (.if_icmp .ne 7, 3) := by decide +kernel
theorem dL_isSo_252 : decode cL_isSo 252 = .ok (.iconst 1, 1) := by decide +kernel
theorem dL_isSo_253 : decode cL_isSo 253 = .ok (.goto 4, 3) := by decide +kernel
theorem dL_isSo_256 : decode cL_isSo 256 = .ok (.iconst 0, 1) := by decide +kernel
theorem dL_isSo_257 : decode cL_isSo 257 = .ok (.istore 10, 2) := by decide +kernel
theorem dL_isSo_259 : decode cL_isSo 259 = .ok (.iload 10, 2) := by decide +kernel
theorem dL_isSo_261 : decode cL_isSo 261 = .ok (.ifCond .eq 65, 3) := by decide +kernel
theorem dL_isSo_264 : decode cL_isSo 264 = .ok (.lload 13, 2) := by decide +kernel
theorem dL_isSo_266 : decode cL_isSo 266 = .ok (.iconst 0, 1) := by decide +kernel
theorem dL_isSo_267 : decode cL_isSo 267 = .ok (.invokestatic 15, 3) := by decide +kernel
theorem dL_isSo_270 : decode cL_isSo 270 = .ok (.ifCond .lt 23, 3) := by decide +kernel
theorem dL_isSo_273 : decode cL_isSo 273 = .ok (.aload 4, 2) := by decide +kernel
theorem dL_isSo_275 : decode cL_isSo 275 = .ok (.aload 5, 2) := by decide +kernel
theorem dL_isSo_277 : decode cL_isSo 277 = .ok (.aload 6, 2) := by decide +kernel
theorem dL_isSo_279 : decode cL_isSo 279 = .ok (.lload 13, 2) := by decide +kernel
theorem dL_isSo_281 : decode cL_isSo 281 = .ok (.iconst 0, 1) := by decide +kernel
theorem dL_isSo_282 : decode cL_isSo 282 = .ok (.invokestatic 15, 3) := by decide +kernel
theorem dL_isSo_285 : decode cL_isSo 285 = .ok (.invokestatic 33, 3) := by decide +kernel
theorem dL_isSo_288 : decode cL_isSo 288 = .ok (.lconst 0, 1) := by decide +kernel
theorem dL_isSo_289 : decode cL_isSo 289 = .ok (.lcmp, 1) := by decide +kernel
theorem dL_isSo_290 : decode cL_isSo 290 = .ok (.ifCond .eq 36, 3) := by decide +kernel
theorem dL_isSo_293 : decode cL_isSo 293 = .ok (.lload 13, 2) := by decide +kernel
theorem dL_isSo_295 : decode cL_isSo 295 = .ok (.iconst 1, 1) := by decide +kernel
theorem dL_isSo_296 : decode cL_isSo 296 = .ok (.invokestatic 15, 3) := by decide +kernel
theorem dL_isSo_299 : decode cL_isSo 299 = .ok (.ifCond .lt 23, 3) := by decide +kernel
theorem dL_isSo_302 : decode cL_isSo 302 = .ok (.aload 4, 2) := by decide +kernel
theorem dL_isSo_304 : decode cL_isSo 304 = .ok (.aload 5, 2) := by decide +kernel
theorem dL_isSo_306 : decode cL_isSo 306 = .ok (.aload 6, 2) := by decide +kernel
theorem dL_isSo_308 : decode cL_isSo 308 = .ok (.lload 13, 2) := by decide +kernel
theorem dL_isSo_310 : decode cL_isSo 310 = .ok (.iconst 1, 1) := by decide +kernel
theorem dL_isSo_311 : decode cL_isSo 311 = .ok (.invokestatic 15, 3) := by decide +kernel
theorem dL_isSo_314 : decode cL_isSo 314 = .ok (.invokestatic 33, 3) := by decide +kernel
theorem dL_isSo_317 : decode cL_isSo 317 = .ok (.lconst 0, 1) := by decide +kernel
theorem dL_isSo_318 : decode cL_isSo 318 = .ok (.lcmp, 1) := by decide +kernel
theorem dL_isSo_319 : decode cL_isSo 319 = .ok (.ifCond .eq 7, 3) := by decide +kernel
theorem dL_isSo_322 : decode cL_isSo 322 = .ok (.iconst 1, 1) := by decide +kernel
theorem dL_isSo_323 : decode cL_isSo 323 = .ok (.goto 4, 3) := by decide +kernel
theorem dL_isSo_326 : decode cL_isSo 326 = .ok (.iconst 0, 1) := by decide +kernel
theorem dL_isSo_327 : decode cL_isSo 327 = .ok (.istore 10, 2) := by decide +kernel
theorem dL_isSo_329 : decode cL_isSo 329 = .ok (.iinc 11 1, 3) := by decide +kernel
theorem dL_isSo_332 : decode cL_isSo 332 = .ok (.goto (-275), 3) := by decide +kernel
theorem dL_isSo_335 : decode cL_isSo 335 = .ok (.iconst 0, 1) := by decide +kernel
theorem dL_isSo_336 : decode cL_isSo 336 = .ok (.istore 11, 2) := by decide +kernel
theorem dL_isSo_338 : decode cL_isSo 338 = .ok (.iload 11, 2) := by decide +kernel
theorem dL_isSo_340 : decode cL_isSo 340 = .ok (.aload_n 1, 1) := by decide +kernel
theorem dL_isSo_341 : decode cL_isSo 341 = .ok (.iconst 0, 1) := by decide +kernel
theorem dL_isSo_342 : decode cL_isSo 342 = .ok (.iaload, 1) := by decide +kernel
theorem dL_isSo_343 : decode cL_isSo 343 = .ok (.if_icmp .ge 161, 3) := by decide +kernel
theorem dL_isSo_346 : decode cL_isSo 346 = .ok (.iload 10, 2) := by decide +kernel
theorem dL_isSo_348 : decode cL_isSo 348 = .ok (.ifCond .eq 156, 3) := by decide +kernel
theorem dL_isSo_351 : decode cL_isSo 351 = .ok (.iconst 0, 1) := by decide +kernel
theorem dL_isSo_352 : decode cL_isSo 352 = .ok (.istore 12, 2) := by decide +kernel
theorem dL_isSo_354 : decode cL_isSo 354 = .ok (.iconst 0, 1) := by decide +kernel
theorem dL_isSo_355 : decode cL_isSo 355 = .ok (.istore 13, 2) := by decide +kernel
theorem dL_isSo_357 : decode cL_isSo 357 = .ok (.iconst 0, 1) := by decide +kernel
theorem dL_isSo_358 : decode cL_isSo 358 = .ok (.istore 14, 2) := by decide +kernel
theorem dL_isSo_360 : decode cL_isSo 360 = .ok (.iload 14, 2) := by decide +kernel
theorem dL_isSo_362 : decode cL_isSo 362 = .ok (.sipush 188, 3) := by decide +kernel
theorem dL_isSo_365 : decode cL_isSo 365 = .ok (.if_icmp .ge 92, 3) := by decide +kernel
theorem dL_isSo_368 : decode cL_isSo 368 = .ok (.iload 10, 2) := by decide +kernel
theorem dL_isSo_370 : decode cL_isSo 370 = .ok (.ifCond .eq 87, 3) := by decide +kernel
theorem dL_isSo_373 : decode cL_isSo 373 = .ok (.aload 4, 2) := by decide +kernel
theorem dL_isSo_375 : decode cL_isSo 375 = .ok (.aload 5, 2) := by decide +kernel
theorem dL_isSo_377 : decode cL_isSo 377 = .ok (.aload 6, 2) := by decide +kernel
theorem dL_isSo_379 : decode cL_isSo 379 = .ok (.iload 14, 2) := by decide +kernel
theorem dL_isSo_381 : decode cL_isSo 381 = .ok (.invokestatic 81, 3) := by decide +kernel
theorem dL_isSo_384 : decode cL_isSo 384 = .ok (.invokestatic 33, 3) := by decide +kernel
theorem dL_isSo_387 : decode cL_isSo 387 = .ok (.invokestatic 21, 3) := by decide +kernel
theorem dL_isSo_390 : decode cL_isSo 390 = .ok (.iload 11, 2) := by decide +kernel
theorem dL_isSo_392 : decode cL_isSo 392 = .ok (.if_icmp .ne 59, 3) := by decide +kernel
theorem dL_isSo_395 : decode cL_isSo 395 = .ok (.aload_n 0, 1) := by decide +kernel
theorem dL_isSo_396 : decode cL_isSo 396 = .ok (.iload 11, 2) := by decide +kernel
theorem dL_isSo_398 : decode cL_isSo 398 = .ok (.iload 12, 2) := by decide +kernel
theorem dL_isSo_400 : decode cL_isSo 400 = .ok (.invokevirtual 137, 3) := by decide +kernel
theorem dL_isSo_403 : decode cL_isSo 403 = .ok (.iload 14, 2) := by decide +kernel
theorem dL_isSo_405 : decode cL_isSo 405 = .ok (.invokestatic 81, 3) := by decide +kernel
theorem dL_isSo_408 : decode cL_isSo 408 = .ok (.if_icmp .ne 7, 3) := by decide +kernel
theorem dL_isSo_411 : decode cL_isSo 411 = .ok (.iconst 1, 1) := by decide +kernel
theorem dL_isSo_412 : decode cL_isSo 412 = .ok (.goto 4, 3) := by decide +kernel
theorem dL_isSo_415 : decode cL_isSo 415 = .ok (.iconst 0, 1) := by decide +kernel
theorem dL_isSo_416 : decode cL_isSo 416 = .ok (.istore 10, 2) := by decide +kernel
theorem dL_isSo_418 : decode cL_isSo 418 = .ok (.iinc 12 1, 3) := by decide +kernel
theorem dL_isSo_421 : decode cL_isSo 421 = .ok (.iload 13, 2) := by decide +kernel
theorem dL_isSo_423 : decode cL_isSo 423 = .ok (.aload_n 1, 1) := by decide +kernel
theorem dL_isSo_424 : decode cL_isSo 424 = .ok (.iconst 2, 1) := by decide +kernel
theorem dL_isSo_425 : decode cL_isSo 425 = .ok (.iaload, 1) := by decide +kernel
theorem dL_isSo_426 : decode cL_isSo 426 = .ok (.iconst 1, 1) := by decide +kernel
theorem dL_isSo_427 : decode cL_isSo 427 = .ok (.if_icmp .ne 20, 3) := by decide +kernel
theorem dL_isSo_430 : decode cL_isSo 430 = .ok (.iload 14, 2) := by decide +kernel
theorem dL_isSo_432 : decode cL_isSo 432 = .ok (.bipush 64, 2) := by decide +kernel
theorem dL_isSo_434 : decode cL_isSo 434 = .ok (.idiv, 1) := by decide +kernel
theorem dL_isSo_435 : decode cL_isSo 435 = .ok (.iconst 1, 1) := by decide +kernel
theorem dL_isSo_436 : decode cL_isSo 436 = .ok (.aload_n 1, 1) := by decide +kernel
theorem dL_isSo_437 : decode cL_isSo 437 = .ok (.iconst 3, 1) := by decide +kernel
theorem dL_isSo_438 : decode cL_isSo 438 = .ok (.iaload, 1) := by decide +kernel
theorem dL_isSo_439 : decode cL_isSo 439 = .ok (.isub, 1) := by decide +kernel
theorem dL_isSo_440 : decode cL_isSo 440 = .ok (.if_icmp .ne 7, 3) := by decide +kernel
theorem dL_isSo_443 : decode cL_isSo 443 = .ok (.iconst 0, 1) := by decide +kernel
theorem dL_isSo_444 : decode cL_isSo 444 = .ok (.goto 4, 3) := by decide +kernel
theorem dL_isSo_447 : decode cL_isSo 447 = .ok (.iconst 1, 1) := by decide +kernel
theorem dL_isSo_448 : decode cL_isSo 448 = .ok (.iadd, 1) := by decide +kernel
theorem dL_isSo_449 : decode cL_isSo 449 = .ok (.istore 13, 2) := by decide +kernel
theorem dL_isSo_451 : decode cL_isSo 451 = .ok (.iinc 14 1, 3) := by decide +kernel
theorem dL_isSo_454 : decode cL_isSo 454 = .ok (.goto (-94), 3) := by decide +kernel
theorem dL_isSo_457 : decode cL_isSo 457 = .ok (.iload 9, 2) := by decide +kernel
theorem dL_isSo_459 : decode cL_isSo 459 = .ok (.iload 13, 2) := by decide +kernel
theorem dL_isSo_461 : decode cL_isSo 461 = .ok (.iconst 1, 1) := by decide +kernel
theorem dL_isSo_462 : decode cL_isSo 462 = .ok (.if_icmp .le 7, 3) := by decide +kernel
theorem dL_isSo_465 : decode cL_isSo 465 = .ok (.iconst 1, 1) := by decide +kernel
theorem dL_isSo_466 : decode cL_isSo 466 = .ok (.goto 4, 3) := by decide +kernel
theorem dL_isSo_469 : decode cL_isSo 469 = .ok (.iconst 0, 1) := by decide +kernel
theorem dL_isSo_470 : decode cL_isSo 470 = .ok (.iadd, 1) := by decide +kernel
theorem dL_isSo_471 : decode cL_isSo 471 = .ok (.istore 9, 2) := by decide +kernel
theorem dL_isSo_473 : decode cL_isSo 473 = .ok (.iload 10, 2) := by decide +kernel
theorem dL_isSo_475 : decode cL_isSo 475 = .ok (.ifCond .eq 20, 3) := by decide +kernel
theorem dL_isSo_478 : decode cL_isSo 478 = .ok (.aload_n 0, 1) := by decide +kernel
theorem dL_isSo_479 : decode cL_isSo 479 = .ok (.iload 11, 2) := by decide +kernel
theorem dL_isSo_481 : decode cL_isSo 481 = .ok (.iload 12, 2) := by decide +kernel
theorem dL_isSo_483 : decode cL_isSo 483 = .ok (.invokevirtual 137, 3) := by decide +kernel
theorem dL_isSo_486 : decode cL_isSo 486 = .ok (.bipush (-9), 2) := by decide +kernel
theorem dL_isSo_488 : decode cL_isSo 488 = .ok (.if_icmp .ne 7, 3) := by decide +kernel
theorem dL_isSo_491 : decode cL_isSo 491 = .ok (.iconst 1, 1) := by decide +kernel
theorem dL_isSo_492 : decode cL_isSo 492 = .ok (.goto 4, 3) := by decide +kernel
theorem dL_isSo_495 : decode cL_isSo 495 = .ok (.iconst 0, 1) := by decide +kernel
theorem dL_isSo_496 : decode cL_isSo 496 = .ok (.istore 10, 2) := by decide +kernel
theorem dL_isSo_498 : decode cL_isSo 498 = .ok (.iinc 11 1, 3) := by decide +kernel
theorem dL_isSo_501 : decode cL_isSo 501 = .ok (.goto (-163), 3) := by decide +kernel
theorem dL_isSo_504 : decode cL_isSo 504 = .ok (.iload 10, 2) := by decide +kernel
theorem dL_isSo_506 : decode cL_isSo 506 = .ok (.ifCond .eq 222, 3) := by decide +kernel
theorem dL_isSo_509 : decode cL_isSo 509 = .ok (.aload_n 0, 1) := by decide +kernel
theorem dL_isSo_510 : decode cL_isSo 510 = .ok (.iconst 0, 1) := by decide +kernel
theorem dL_isSo_511 : decode cL_isSo 511 = .ok (.invokevirtual 140, 3) := by decide +kernel
theorem dL_isSo_514 : decode cL_isSo 514 = .ok (.aload_n 1, 1) := by decide +kernel
theorem dL_isSo_515 : decode cL_isSo 515 = .ok (.iconst 0, 1) := by decide +kernel
theorem dL_isSo_516 : decode cL_isSo 516 = .ok (.iaload, 1) := by decide +kernel
theorem dL_isSo_517 : decode cL_isSo 517 = .ok (.if_icmp .ne 211, 3) := by decide +kernel
theorem dL_isSo_520 : decode cL_isSo 520 = .ok (.aload_n 0, 1) := by decide +kernel
theorem dL_isSo_521 : decode cL_isSo 521 = .ok (.iconst 1, 1) := by decide +kernel
theorem dL_isSo_522 : decode cL_isSo 522 = .ok (.invokevirtual 140, 3) := by decide +kernel
theorem dL_isSo_525 : decode cL_isSo 525 = .ok (.iload 7, 2) := by decide +kernel
theorem dL_isSo_527 : decode cL_isSo 527 = .ok (.if_icmp .ne 201, 3) := by decide +kernel
theorem dL_isSo_530 : decode cL_isSo 530 = .ok (.aload_n 0, 1) := by decide +kernel
theorem dL_isSo_531 : decode cL_isSo 531 = .ok (.iconst 2, 1) := by decide +kernel
theorem dL_isSo_532 : decode cL_isSo 532 = .ok (.invokevirtual 140, 3) := by decide +kernel
theorem dL_isSo_535 : decode cL_isSo 535 = .ok (.aload_n 1, 1) := by decide +kernel
theorem dL_isSo_536 : decode cL_isSo 536 = .ok (.iconst 2, 1) := by decide +kernel
theorem dL_isSo_537 : decode cL_isSo 537 = .ok (.iaload, 1) := by decide +kernel
theorem dL_isSo_538 : decode cL_isSo 538 = .ok (.if_icmp .ne 190, 3) := by decide +kernel
theorem dL_isSo_541 : decode cL_isSo 541 = .ok (.aload_n 0, 1) := by decide +kernel
theorem dL_isSo_542 : decode cL_isSo 542 = .ok (.iconst 3, 1) := by decide +kernel
theorem dL_isSo_543 : decode cL_isSo 543 = .ok (.invokevirtual 140, 3) := by decide +kernel
theorem dL_isSo_546 : decode cL_isSo 546 = .ok (.aload_n 1, 1) := by decide +kernel
theorem dL_isSo_547 : decode cL_isSo 547 = .ok (.iconst 3, 1) := by decide +kernel
theorem dL_isSo_548 : decode cL_isSo 548 = .ok (.iaload, 1) := by decide +kernel
theorem dL_isSo_549 : decode cL_isSo 549 = .ok (.if_icmp .ne 179, 3) := by decide +kernel
theorem dL_isSo_552 : decode cL_isSo 552 = .ok (.aload_n 0, 1) := by decide +kernel
theorem dL_isSo_553 : decode cL_isSo 553 = .ok (.iconst 4, 1) := by decide +kernel
theorem dL_isSo_554 : decode cL_isSo 554 = .ok (.invokevirtual 140, 3) := by decide +kernel
theorem dL_isSo_557 : decode cL_isSo 557 = .ok (.bipush 64, 2) := by decide +kernel
theorem dL_isSo_559 : decode cL_isSo 559 = .ok (.aload_n 1, 1) := by decide +kernel
theorem dL_isSo_560 : decode cL_isSo 560 = .ok (.iconst 4, 1) := by decide +kernel
theorem dL_isSo_561 : decode cL_isSo 561 = .ok (.aload_n 1, 1) := by decide +kernel
theorem dL_isSo_562 : decode cL_isSo 562 = .ok (.iconst 3, 1) := by decide +kernel
theorem dL_isSo_563 : decode cL_isSo 563 = .ok (.iaload, 1) := by decide +kernel
theorem dL_isSo_564 : decode cL_isSo 564 = .ok (.iadd, 1) := by decide +kernel
theorem dL_isSo_565 : decode cL_isSo 565 = .ok (.iaload, 1) := by decide +kernel
theorem dL_isSo_566 : decode cL_isSo 566 = .ok (.isub, 1) := by decide +kernel
theorem dL_isSo_567 : decode cL_isSo 567 = .ok (.if_icmp .ne 161, 3) := by decide +kernel
theorem dL_isSo_570 : decode cL_isSo 570 = .ok (.aload_n 0, 1) := by decide +kernel
theorem dL_isSo_571 : decode cL_isSo 571 = .ok (.iconst 5, 1) := by decide +kernel
theorem dL_isSo_572 : decode cL_isSo 572 = .ok (.invokevirtual 140, 3) := by decide +kernel
theorem dL_isSo_575 : decode cL_isSo 575 = .ok (.iload 8, 2) := by decide +kernel
theorem dL_isSo_577 : decode cL_isSo 577 = .ok (.if_icmp .ne 151, 3) := by decide +kernel
theorem dL_isSo_580 : decode cL_isSo 580 = .ok (.aload_n 0, 1) := by decide +kernel
theorem dL_isSo_581 : decode cL_isSo 581 = .ok (.bipush 6, 2) := by decide +kernel
theorem dL_isSo_583 : decode cL_isSo 583 = .ok (.invokevirtual 140, 3) := by decide +kernel
theorem dL_isSo_586 : decode cL_isSo 586 = .ok (.aload_n 1, 1) := by decide +kernel
theorem dL_isSo_587 : decode cL_isSo 587 = .ok (.bipush 8, 2) := by decide +kernel
theorem dL_isSo_589 : decode cL_isSo 589 = .ok (.iaload, 1) := by decide +kernel
theorem dL_isSo_590 : decode cL_isSo 590 = .ok (.if_icmp .ne 138, 3) := by decide +kernel
theorem dL_isSo_593 : decode cL_isSo 593 = .ok (.aload_n 0, 1) := by decide +kernel
theorem dL_isSo_594 : decode cL_isSo 594 = .ok (.bipush 7, 2) := by decide +kernel
theorem dL_isSo_596 : decode cL_isSo 596 = .ok (.invokevirtual 140, 3) := by decide +kernel
theorem dL_isSo_599 : decode cL_isSo 599 = .ok (.aload_n 1, 1) := by decide +kernel
theorem dL_isSo_600 : decode cL_isSo 600 = .ok (.aload_n 3, 1) := by decide +kernel
theorem dL_isSo_601 : decode cL_isSo 601 = .ok (.aload 4, 2) := by decide +kernel
theorem dL_isSo_603 : decode cL_isSo 603 = .ok (.aload 5, 2) := by decide +kernel
theorem dL_isSo_605 : decode cL_isSo 605 = .ok (.invokestatic 64, 3) := by decide +kernel
theorem dL_isSo_608 : decode cL_isSo 608 = .ok (.if_icmp .ne 120, 3) := by decide +kernel
theorem dL_isSo_611 : decode cL_isSo 611 = .ok (.aload_n 0, 1) := by decide +kernel
theorem dL_isSo_612 : decode cL_isSo 612 = .ok (.bipush 8, 2) := by decide +kernel
theorem dL_isSo_614 : decode cL_isSo 614 = .ok (.invokevirtual 140, 3) := by decide +kernel
theorem dL_isSo_617 : decode cL_isSo 617 = .ok (.aload_n 1, 1) := by decide +kernel
theorem dL_isSo_618 : decode cL_isSo 618 = .ok (.bipush 6, 2) := by decide +kernel
theorem dL_isSo_620 : decode cL_isSo 620 = .ok (.iaload, 1) := by decide +kernel
theorem dL_isSo_621 : decode cL_isSo 621 = .ok (.if_icmp .ne 107, 3) := by decide +kernel
theorem dL_isSo_624 : decode cL_isSo 624 = .ok (.aload_n 0, 1) := by decide +kernel
theorem dL_isSo_625 : decode cL_isSo 625 = .ok (.bipush 9, 2) := by decide +kernel
theorem dL_isSo_627 : decode cL_isSo 627 = .ok (.invokevirtual 140, 3) := by decide +kernel
theorem dL_isSo_630 : decode cL_isSo 630 = .ok (.aload_n 1, 1) := by decide +kernel
theorem dL_isSo_631 : decode cL_isSo 631 = .ok (.bipush 7, 2) := by decide +kernel
theorem dL_isSo_633 : decode cL_isSo 633 = .ok (.iaload, 1) := by decide +kernel
theorem dL_isSo_634 : decode cL_isSo 634 = .ok (.if_icmp .ne 94, 3) := by decide +kernel
theorem dL_isSo_637 : decode cL_isSo 637 = .ok (.aload_n 0, 1) := by decide +kernel
theorem dL_isSo_638 : decode cL_isSo 638 = .ok (.bipush 10, 2) := by decide +kernel
theorem dL_isSo_640 : decode cL_isSo 640 = .ok (.invokevirtual 140, 3) := by decide +kernel
theorem dL_isSo_643 : decode cL_isSo 643 = .ok (.iload 9, 2) := by decide +kernel
theorem dL_isSo_645 : decode cL_isSo 645 = .ok (.if_icmp .ne 83, 3) := by decide +kernel
theorem dL_isSo_648 : decode cL_isSo 648 = .ok (.aload_n 0, 1) := by decide +kernel
theorem dL_isSo_649 : decode cL_isSo 649 = .ok (.bipush 11, 2) := by decide +kernel
theorem dL_isSo_651 : decode cL_isSo 651 = .ok (.invokevirtual 140, 3) := by decide +kernel
theorem dL_isSo_654 : decode cL_isSo 654 = .ok (.aload_n 1, 1) := by decide +kernel
theorem dL_isSo_655 : decode cL_isSo 655 = .ok (.iconst 1, 1) := by decide +kernel
theorem dL_isSo_656 : decode cL_isSo 656 = .ok (.iaload, 1) := by decide +kernel
theorem dL_isSo_657 : decode cL_isSo 657 = .ok (.if_icmp .ne 71, 3) := by decide +kernel
theorem dL_isSo_660 : decode cL_isSo 660 = .ok (.aload_n 0, 1) := by decide +kernel
theorem dL_isSo_661 : decode cL_isSo 661 = .ok (.bipush 13, 2) := by decide +kernel
theorem dL_isSo_663 : decode cL_isSo 663 = .ok (.invokevirtual 140, 3) := by decide +kernel
theorem dL_isSo_666 : decode cL_isSo 666 = .ok (.ifCond .ne 62, 3) := by decide +kernel
theorem dL_isSo_669 : decode cL_isSo 669 = .ok (.aload_n 0, 1) := by decide +kernel
theorem dL_isSo_670 : decode cL_isSo 670 = .ok (.aload_n 1, 1) := by decide +kernel
theorem dL_isSo_671 : decode cL_isSo 671 = .ok (.iconst 0, 1) := by decide +kernel
theorem dL_isSo_672 : decode cL_isSo 672 = .ok (.iaload, 1) := by decide +kernel
theorem dL_isSo_673 : decode cL_isSo 673 = .ok (.iconst 0, 1) := by decide +kernel
theorem dL_isSo_674 : decode cL_isSo 674 = .ok (.invokevirtual 137, 3) := by decide +kernel
theorem dL_isSo_677 : decode cL_isSo 677 = .ok (.iconst (-1), 1) := by decide +kernel
theorem dL_isSo_678 : decode cL_isSo 678 = .ok (.if_icmp .ne 50, 3) := by decide +kernel
theorem dL_isSo_681 : decode cL_isSo 681 = .ok (.aload_n 0, 1) := by decide +kernel
theorem dL_isSo_682 : decode cL_isSo 682 = .ok (.iconst 0, 1) := by decide +kernel
theorem dL_isSo_683 : decode cL_isSo 683 = .ok (.iconst (-1), 1) := by decide +kernel
theorem dL_isSo_684 : decode cL_isSo 684 = .ok (.invokevirtual 137, 3) := by decide +kernel
theorem dL_isSo_687 : decode cL_isSo 687 = .ok (.iconst (-1), 1) := by decide +kernel
theorem dL_isSo_688 : decode cL_isSo 688 = .ok (.if_icmp .ne 40, 3) := by decide +kernel
theorem dL_isSo_691 : decode cL_isSo 691 = .ok (.aload_n 0, 1) := by decide +kernel
theorem dL_isSo_692 : decode cL_isSo 692 = .ok (.bipush 64, 2) := by decide +kernel
theorem dL_isSo_694 : decode cL_isSo 694 = .ok (.iconst 0, 1) := by decide +kernel
theorem dL_isSo_695 : decode cL_isSo 695 = .ok (.invokevirtual 134, 3) := by decide +kernel
theorem dL_isSo_698 : decode cL_isSo 698 = .ok (.iconst (-1), 1) := by decide +kernel
theorem dL_isSo_699 : decode cL_isSo 699 = .ok (.if_icmp .ne 29, 3) := by decide +kernel
theorem dL_isSo_702 : decode cL_isSo 702 = .ok (.aload_n 0, 1) := by decide +kernel
theorem dL_isSo_703 : decode cL_isSo 703 = .ok (.sipush 260, 3) := by decide +kernel
theorem dL_isSo_706 : decode cL_isSo 706 = .ok (.iconst 0, 1) := by decide +kernel
theorem dL_isSo_707 : decode cL_isSo 707 = .ok (.invokevirtual 134, 3) := by decide +kernel
theorem dL_isSo_710 : decode cL_isSo 710 = .ok (.iconst (-1), 1) := by decide +kernel
theorem dL_isSo_711 : decode cL_isSo 711 = .ok (.if_icmp .ne 17, 3) := by decide +kernel
theorem dL_isSo_714 : decode cL_isSo 714 = .ok (.aload_n 0, 1) := by decide +kernel
theorem dL_isSo_715 : decode cL_isSo 715 = .ok (.iconst (-1), 1) := by decide +kernel
theorem dL_isSo_716 : decode cL_isSo 716 = .ok (.iconst 0, 1) := by decide +kernel
theorem dL_isSo_717 : decode cL_isSo 717 = .ok (.invokevirtual 134, 3) := by decide +kernel
theorem dL_isSo_720 : decode cL_isSo 720 = .ok (.iconst (-1), 1) := by decide +kernel
theorem dL_isSo_721 : decode cL_isSo 721 = .ok (.if_icmp .ne 7, 3) := by decide +kernel
theorem dL_isSo_724 : decode cL_isSo 724 = .ok (.iconst 1, 1) := by decide +kernel
theorem dL_isSo_725 : decode cL_isSo 725 = .ok (.goto 4, 3) := by decide +kernel
theorem dL_isSo_728 : decode cL_isSo 728 = .ok (.iconst 0, 1) := by decide +kernel
theorem dL_isSo_729 : decode cL_isSo 729 = .ok (.ireturn, 1) := by decide +kernel
set_option maxRecDepth 20000 in
theorem ggL_law_X7_init : GoodIn wsL_law wsX7_init := goodIn_r _ [8, 9, 10, 11, 12, 13, 14, 15, 16, 17, 18, 19, 20, 21, 22, 23, 24, 25, 26, 27, 28, 29, 30, 31, 32, 33, 34, 35, 36, 3, 37, 38, 39, 40, 41, 42, 43, 44, 45, 46, 47, 48, 49, 50, 51, 52, 53, 54, 55, 56, 57, 58, 59, 60, 61, 62, 63, 64, 65, 66, 67, 68, 69, 70, 71, 72, 73, 74, 75, 76, 77, 78, 79, 80, 81, 82, 83, 84, 85, 86, 491, 492, 493, 494, 495, 496, 497, 498, 499, 500, 485, 486, 487, 488, 489, 490, 501, 502, 503, 504, 505, 506, 507, 508, 509, 510, 511, 512, 513, 514, 515, 516, 517, 518, 519, 520] (by decide +kernel) (by decide +kernel)
set_option maxRecDepth 20000 in
theorem gL_law_X7_init : GoodIn wsL_law (wsX7_init) := ggL_law_X7_init
set_option maxRecDepth 20000 in
theorem ggL_law_L_isSo : GoodIn wsL_law wsL_isSo := goodIn_r _ [90, 91, 92, 93, 2, 94, 15, 95, 96, 97, 98, 99, 100, 14, 101, 37, 102, 103, 104, 105, 106, 89, 107, 108, 109, 110, 111, 112, 113, 114, 115, 116, 117, 40, 118, 52, 119, 120, 121, 122, 51, 123, 124, 125, 126, 127, 128, 129, 130, 131, 53, 132, 133, 134, 135, 54, 136, 137, 138, 139, 55, 140, 141, 142, 143, 144, 145, 146, 147, 148, 149, 150, 151, 152, 153, 154, 155, 156, 157, 158, 159, 160, 161, 162, 163, 164, 165, 166, 167, 168, 169, 170, 171, 172, 173, 20, 28, 174, 175, 176, 19, 177, 178, 179, 180, 181, 27, 182, 183, 184, 185, 186, 187, 41, 188, 189, 45, 190, 191, 46, 192, 193, 194, 195, 196, 197, 198, 199, 200, 201, 202, 203, 204, 205, 206, 207, 208, 44, 209, 210, 211, 212, 213, 214, 215, 216, 217, 218, 219, 220, 221, 222, 223, 224, 225, 226, 227, 228, 229, 230, 231, 232, 233, 234, 235, 236, 237, 485, 486, 487, 488, 489, 490, 491, 492, 493, 494, 495, 496, 497, 498, 499, 500, 513, 514, 515, 516, 517, 501, 502, 503, 508, 509, 518, 519, 520] rfl (by decide +kernel)
set_option maxRecDepth 20000 in
theorem gL_law_L_isSo : GoodIn wsL_law (va_wsS RL 144 yL_isSo wsL_isSo) := goodIn_app (goodIn_of _ (by decide +kernel)) ggL_law_L_isSo
set_option maxRecDepth 20000 in
theorem ggL_law_L_cell : GoodIn wsL_law wsL_cell := goodIn_r _ [240, 241] (by decide +kernel) (by decide +kernel)
set_option maxRecDepth 20000 in
theorem gL_law_L_cell : GoodIn wsL_law (va_wsS RL 148 yL_cell wsL_cell) := goodIn_app (goodIn_of _ (by decide +kernel)) ggL_law_L_cell
set_option maxRecDepth 20000 in
theorem ggL_law_L_acts : GoodIn wsL_law wsL_acts := goodIn_r _ [244, 245, 246, 247, 89, 248, 5, 249, 250, 251, 252, 253, 254, 142, 143, 144, 145, 235, 236, 237, 146, 147, 148, 149, 255, 256, 257, 2, 258, 20, 15, 259, 260, 261, 19, 262, 70, 263, 264, 265, 266, 267, 178, 268, 269, 270, 271, 272, 273, 274, 14, 275, 37, 276, 277, 278, 279, 41, 45, 46, 161, 188, 189, 200, 190, 191, 280, 281, 282, 40, 283, 51, 284, 52, 53, 54, 55, 285, 286, 287, 44, 288, 63, 289, 211, 210, 290, 291, 292, 293, 96, 97, 294, 295, 296, 297, 205, 125, 126, 127, 123, 116, 117, 118, 298, 299, 300, 301, 196, 197, 198, 199, 212, 213, 214, 215, 216, 217, 218, 219, 220, 129, 130, 131, 221, 302, 303, 304, 305, 306, 307, 308, 309, 310, 311, 312, 313, 314, 315, 316, 317, 318, 319, 320, 321, 322, 323, 324, 325, 326, 327, 328, 329, 330, 331, 332, 333, 334, 335, 336, 337, 338, 140, 141, 339, 340, 341, 342, 231, 232, 233, 234, 343, 344, 345, 346, 347, 348, 349, 350, 351, 352, 353, 354, 355, 356, 357, 358, 359, 360, 361, 362, 363, 364, 365, 366, 367, 368, 369, 370, 108, 109, 110, 150, 151, 152, 371, 372, 373, 374, 375, 376, 377, 378, 379, 380, 381, 382, 383, 384, 385, 386, 387, 388, 389, 390, 391, 392, 393, 206, 207, 208, 209, 394, 395, 396, 397, 398, 399, 400, 401, 402, 403, 404, 405, 406, 407, 408, 409, 410, 411, 412, 413, 414, 415, 416, 417, 418, 419, 420, 421, 422, 423, 424, 425, 426, 427, 428, 429, 430, 431, 432, 433, 434, 435, 436, 437, 438, 439, 440, 441, 442, 443, 444, 445, 446, 447, 448, 449, 450, 451, 452, 158, 159, 160, 453, 454, 455, 456, 230, 167, 168, 169, 457, 458, 459, 460, 461, 462, 463, 464, 465, 466, 467, 468, 226, 227, 228, 229, 469, 163, 164, 165, 166, 470, 471, 472, 473, 474, 475, 476, 477, 478, 479, 480, 481, 482, 483, 484, 105, 106, 107, 485, 486, 487, 488, 489, 490, 501, 502, 503, 491, 492, 493, 494, 495, 496, 497, 498, 499, 500, 513, 514, 515, 516, 517, 518, 519, 520] rfl (by decide +kernel)
set_option maxRecDepth 20000 in
theorem gL_law_L_acts : GoodIn wsL_law (va_wsS RL 152 yL_acts wsL_acts) := goodIn_app (goodIn_of _ (by decide +kernel)) ggL_law_L_acts
set_option maxRecDepth 20000 in
theorem ggL_law_L_low : GoodIn wsL_law wsL_low := goodIn_r _ [248, 5] (by decide +kernel) (by decide +kernel)
set_option maxRecDepth 20000 in
theorem gL_law_L_low : GoodIn wsL_law (va_wsS RL 92 yL_low wsL_low) := goodIn_app (goodIn_of _ (by decide +kernel)) ggL_law_L_low
set_option maxRecDepth 20000 in
theorem ggL_law_X7_count : GoodIn wsL_law wsX7_count := goodIn_r _ [173, 20, 28, 15, 174, 175, 176, 19, 177, 178, 179, 180, 181, 27, 182, 183, 184, 185, 186, 14, 187, 161, 41, 188, 189, 45, 190, 191, 46, 192, 193, 194, 40, 195, 123, 116, 117, 118, 52, 196, 197, 198, 199, 200, 201, 202, 203, 204, 205, 125, 126, 127, 206, 207, 208, 44, 209, 210, 211, 212, 213, 214, 215, 216, 217, 218, 219, 220, 129, 130, 131, 53, 221, 222, 223, 224, 225, 226, 227, 228, 229, 230, 167, 168, 169, 51, 231, 232, 233, 234, 485, 486, 487, 488, 489, 490, 501, 502, 503, 508, 509, 491, 492, 493, 494, 495, 496, 497, 498, 499, 500, 513, 514, 515, 516, 517, 518, 519, 520] (by decide +kernel) (by decide +kernel)
set_option maxRecDepth 20000 in
theorem gL_law_X7_count : GoodIn wsL_law (wsV RL 140 RX7 yX7_count wsX7_count) := goodIn_app (goodIn_of _ (by decide +kernel)) ggL_law_X7_count
set_option maxRecDepth 20000 in
theorem ggL_law_X7_hook : GoodIn wsL_law wsX7_hook := goodIn_r _ [94, 15, 95, 96, 2, 97, 98, 99, 100, 14, 101, 37, 102, 103, 104, 485, 486, 487, 488, 489, 490, 491, 492, 493, 494, 495, 496, 497, 498, 499, 500] (by decide +kernel) (by decide +kernel)
set_option maxRecDepth 20000 in
theorem gL_law_X7_hook : GoodIn wsL_law (wsV RL 131 RX7 yX7_hook wsX7_hook) := goodIn_app (goodIn_of _ (by decide +kernel)) ggL_law_X7_hook
theorem dL_law_0 : decode cL_law 0 = .ok (.new 69, 3) := by decide +kernel
theorem dL_law_3 : decode cL_law 3 = .ok (.dup, 1) := by decide +kernel
theorem dL_law_4 : decode cL_law 4 = .ok (.invokespecial 143, 3) := by decide +kernel
theorem dL_law_7 : decode cL_law 7 = .ok (.astore_n 1, 1) := by decide +kernel
theorem dL_law_8 : decode cL_law 8 = .ok (.bipush 9, 2) := by decide +kernel
theorem dL_law_10 : decode cL_law 10 = .ok (.newarray .int, 2) := by decide +kernel
theorem dL_law_12 : decode cL_law 12 = .ok (.astore_n 2, 1) := by decide +kernel
theorem dL_law_13 : decode cL_law 13 = .ok (.bipush 8, 2) := by decide +kernel
theorem dL_law_15 : decode cL_law 15 = .ok (.newarray .int, 2) := by decide +kernel
theorem dL_law_17 : decode cL_law 17 = .ok (.astore_n 3, 1) := by decide +kernel
theorem dL_law_18 : decode cL_law 18 = .ok (.bipush 40, 2) := by decide +kernel
theorem dL_law_20 : decode cL_law 20 = .ok (.newarray .int, 2) := by decide +kernel
theorem dL_law_22 : decode cL_law 22 = .ok (.astore 4, 2) := by decide +kernel
theorem dL_law_24 : decode cL_law 24 = .ok (.bipush 64, 2) := by decide +kernel
theorem dL_law_26 : decode cL_law 26 = .ok (.newarray .int, 2) := by decide +kernel
theorem dL_law_28 : decode cL_law 28 = .ok (.astore 5, 2) := by decide +kernel
theorem dL_law_30 : decode cL_law 30 = .ok (.bipush 64, 2) := by decide +kernel
theorem dL_law_32 : decode cL_law 32 = .ok (.newarray .long, 2) := by decide +kernel
theorem dL_law_34 : decode cL_law 34 = .ok (.astore 6, 2) := by decide +kernel
theorem dL_law_36 : decode cL_law 36 = .ok (.bipush 64, 2) := by decide +kernel
theorem dL_law_38 : decode cL_law 38 = .ok (.newarray .long, 2) := by decide +kernel
theorem dL_law_40 : decode cL_law 40 = .ok (.astore 7, 2) := by decide +kernel
theorem dL_law_42 : decode cL_law 42 = .ok (.bipush 64, 2) := by decide +kernel
theorem dL_law_44 : decode cL_law 44 = .ok (.newarray .long, 2) := by decide +kernel
theorem dL_law_46 : decode cL_law 46 = .ok (.astore 8, 2) := by decide +kernel
theorem dL_law_48 : decode cL_law 48 = .ok (.aload_n 2, 1) := by decide +kernel
theorem dL_law_49 : decode cL_law 49 = .ok (.iconst 1, 1) := by decide +kernel
theorem dL_law_50 : decode cL_law 50 = .ok (.bipush 6, 2) := by decide +kernel
theorem dL_law_52 : decode cL_law 52 = .ok (.iastore, 1) := by decide +kernel
theorem dL_law_53 : decode cL_law 53 = .ok (.iconst 0, 1) := by decide +kernel
theorem dL_law_54 : decode cL_law 54 = .ok (.istore 9, 2) := by decide +kernel
theorem dL_law_56 : decode cL_law 56 = .ok (.iload 9, 2) := by decide +kernel
theorem dL_law_58 : decode cL_law 58 = .ok (.bipush 8, 2) := by decide +kernel
theorem dL_law_60 : decode cL_law 60 = .ok (.if_icmp .ge 15, 3) := by decide +kernel
theorem dL_law_63 : decode cL_law 63 = .ok (.aload_n 3, 1) := by decide +kernel
theorem dL_law_64 : decode cL_law 64 = .ok (.iload 9, 2) := by decide +kernel
theorem dL_law_66 : decode cL_law 66 = .ok (.bipush (-9), 2) := by decide +kernel
theorem dL_law_68 : decode cL_law 68 = .ok (.iastore, 1) := by decide +kernel
theorem dL_law_69 : decode cL_law 69 = .ok (.iinc 9 1, 3) := by decide +kernel
theorem dL_law_72 : decode cL_law 72 = .ok (.goto (-16), 3) := by decide +kernel
theorem dL_law_75 : decode cL_law 75 = .ok (.aload_n 1, 1) := by decide +kernel
theorem dL_law_76 : decode cL_law 76 = .ok (.aload_n 2, 1) := by decide +kernel
theorem dL_law_77 : decode cL_law 77 = .ok (.aload_n 3, 1) := by decide +kernel
theorem dL_law_78 : decode cL_law 78 = .ok (.aload 4, 2) := by decide +kernel
theorem dL_law_80 : decode cL_law 80 = .ok (.aload 6, 2) := by decide +kernel
theorem dL_law_82 : decode cL_law 82 = .ok (.aload 7, 2) := by decide +kernel
theorem dL_law_84 : decode cL_law 84 = .ok (.aload 8, 2) := by decide +kernel
theorem dL_law_86 : decode cL_law 86 = .ok (.invokestatic 144, 3) := by decide +kernel
theorem dL_law_89 : decode cL_law 89 = .ok (.istore 9, 2) := by decide +kernel
theorem dL_law_91 : decode cL_law 91 = .ok (.iconst 0, 1) := by decide +kernel
theorem dL_law_92 : decode cL_law 92 = .ok (.istore 10, 2) := by decide +kernel
theorem dL_law_94 : decode cL_law 94 = .ok (.iload 10, 2) := by decide +kernel
theorem dL_law_96 : decode cL_law 96 = .ok (.bipush 10, 2) := by decide +kernel
theorem dL_law_98 : decode cL_law 98 = .ok (.if_icmp .ge 65, 3) := by decide +kernel
theorem dL_law_101 : decode cL_law 101 = .ok (.iload 9, 2) := by decide +kernel
theorem dL_law_103 : decode cL_law 103 = .ok (.ifCond .eq 60, 3) := by decide +kernel
theorem dL_law_106 : decode cL_law 106 = .ok (.aload_n 1, 1) := by decide +kernel
theorem dL_law_107 : decode cL_law 107 = .ok (.aload_n 2, 1) := by decide +kernel
theorem dL_law_108 : decode cL_law 108 = .ok (.aload_n 3, 1) := by decide +kernel
theorem dL_law_109 : decode cL_law 109 = .ok (.aload 4, 2) := by decide +kernel
theorem dL_law_111 : decode cL_law 111 = .ok (.aload 5, 2) := by decide +kernel
theorem dL_law_113 : decode cL_law 113 = .ok (.aload 6, 2) := by decide +kernel
theorem dL_law_115 : decode cL_law 115 = .ok (.aload 7, 2) := by decide +kernel
theorem dL_law_117 : decode cL_law 117 = .ok (.aload 8, 2) := by decide +kernel
theorem dL_law_119 : decode cL_law 119 = .ok (.aload_n 0, 1) := by decide +kernel
theorem dL_law_120 : decode cL_law 120 = .ok (.iconst 1, 1) := by decide +kernel
theorem dL_law_121 : decode cL_law 121 = .ok (.iload 10, 2) := by decide +kernel
theorem dL_law_123 : decode cL_law 123 = .ok (.iadd, 1) := by decide +kernel
theorem dL_law_124 : decode cL_law 124 = .ok (.invokestatic 148, 3) := by decide +kernel
theorem dL_law_127 : decode cL_law 127 = .ok (.ldc 8, 2) := by decide +kernel
theorem dL_law_129 : decode cL_law 129 = .ok (.iand, 1) := by decide +kernel
theorem dL_law_130 : decode cL_law 130 = .ok (.sipush 864, 3) := by decide +kernel
theorem dL_law_133 : decode cL_law 133 = .ok (.idiv, 1) := by decide +kernel
theorem dL_law_134 : decode cL_law 134 = .ok (.sipush 864, 3) := by decide +kernel
theorem dL_law_137 : decode cL_law 137 = .ok (.imul, 1) := by decide +kernel
theorem dL_law_138 : decode cL_law 138 = .ok (.iload 10, 2) := by decide +kernel
theorem dL_law_140 : decode cL_law 140 = .ok (.bipush 6, 2) := by decide +kernel
theorem dL_law_142 : decode cL_law 142 = .ok (.if_icmp .ge 7, 3) := by decide +kernel
theorem dL_law_145 : decode cL_law 145 = .ok (.iconst 0, 1) := by decide +kernel
theorem dL_law_146 : decode cL_law 146 = .ok (.goto 5, 3) := by decide +kernel
theorem dL_law_149 : decode cL_law 149 = .ok (.bipush 8, 2) := by decide +kernel
theorem dL_law_151 : decode cL_law 151 = .ok (.iadd, 1) := by decide +kernel
theorem dL_law_152 : decode cL_law 152 = .ok (.invokestatic 152, 3) := by decide +kernel
theorem dL_law_155 : decode cL_law 155 = .ok (.istore 9, 2) := by decide +kernel
theorem dL_law_157 : decode cL_law 157 = .ok (.iinc 10 1, 3) := by decide +kernel
theorem dL_law_160 : decode cL_law 160 = .ok (.goto (-66), 3) := by decide +kernel
theorem dL_law_163 : decode cL_law 163 = .ok (.bipush 8, 2) := by decide +kernel
theorem dL_law_165 : decode cL_law 165 = .ok (.aload_n 0, 1) := by decide +kernel
theorem dL_law_166 : decode cL_law 166 = .ok (.iconst 0, 1) := by decide +kernel
theorem dL_law_167 : decode cL_law 167 = .ok (.invokestatic 148, 3) := by decide +kernel
theorem dL_law_170 : decode cL_law 170 = .ok (.bipush 50, 2) := by decide +kernel
theorem dL_law_172 : decode cL_law 172 = .ok (.invokestatic 92, 3) := by decide +kernel
theorem dL_law_175 : decode cL_law 175 = .ok (.iadd, 1) := by decide +kernel
theorem dL_law_176 : decode cL_law 176 = .ok (.istore 10, 2) := by decide +kernel
theorem dL_law_178 : decode cL_law 178 = .ok (.iconst 0, 1) := by decide +kernel
theorem dL_law_179 : decode cL_law 179 = .ok (.istore 11, 2) := by decide +kernel
theorem dL_law_181 : decode cL_law 181 = .ok (.iload 11, 2) := by decide +kernel
theorem dL_law_183 : decode cL_law 183 = .ok (.iload 10, 2) := by decide +kernel
theorem dL_law_185 : decode cL_law 185 = .ok (.if_icmp .ge 73, 3) := by decide +kernel
theorem dL_law_188 : decode cL_law 188 = .ok (.iload 9, 2) := by decide +kernel
theorem dL_law_190 : decode cL_law 190 = .ok (.ifCond .eq 68, 3) := by decide +kernel
theorem dL_law_193 : decode cL_law 193 = .ok (.aload_n 1, 1) := by decide +kernel
theorem dL_law_194 : decode cL_law 194 = .ok (.aload_n 2, 1) := by decide +kernel
theorem dL_law_195 : decode cL_law 195 = .ok (.aload_n 3, 1) := by decide +kernel
theorem dL_law_196 : decode cL_law 196 = .ok (.aload 4, 2) := by decide +kernel
theorem dL_law_198 : decode cL_law 198 = .ok (.aload 5, 2) := by decide +kernel
theorem dL_law_200 : decode cL_law 200 = .ok (.aload 6, 2) := by decide +kernel
theorem dL_law_202 : decode cL_law 202 = .ok (.aload 7, 2) := by decide +kernel
theorem dL_law_204 : decode cL_law 204 = .ok (.aload 8, 2) := by decide +kernel
theorem dL_law_206 : decode cL_law 206 = .ok (.aload_n 0, 1) := by decide +kernel
theorem dL_law_207 : decode cL_law 207 = .ok (.bipush 11, 2) := by decide +kernel
theorem dL_law_209 : decode cL_law 209 = .ok (.iload 11, 2) := by decide +kernel
theorem dL_law_211 : decode cL_law 211 = .ok (.iadd, 1) := by decide +kernel
theorem dL_law_212 : decode cL_law 212 = .ok (.invokestatic 148, 3) := by decide +kernel
theorem dL_law_215 : decode cL_law 215 = .ok (.sipush 7919, 3) := by decide +kernel
theorem dL_law_218 : decode cL_law 218 = .ok (.iload 11, 2) := by decide +kernel
theorem dL_law_220 : decode cL_law 220 = .ok (.imul, 1) := by decide +kernel
theorem dL_law_221 : decode cL_law 221 = .ok (.ixor, 1) := by decide +kernel
theorem dL_law_222 : decode cL_law 222 = .ok (.invokestatic 152, 3) := by decide +kernel
theorem dL_law_225 : decode cL_law 225 = .ok (.ifCond .eq 24, 3) := by decide +kernel
theorem dL_law_228 : decode cL_law 228 = .ok (.aload_n 1, 1) := by decide +kernel
theorem dL_law_229 : decode cL_law 229 = .ok (.aload_n 2, 1) := by decide +kernel
theorem dL_law_230 : decode cL_law 230 = .ok (.aload_n 3, 1) := by decide +kernel
theorem dL_law_231 : decode cL_law 231 = .ok (.aload 4, 2) := by decide +kernel
theorem dL_law_233 : decode cL_law 233 = .ok (.aload 6, 2) := by decide +kernel
theorem dL_law_235 : decode cL_law 235 = .ok (.aload 7, 2) := by decide +kernel
theorem dL_law_237 : decode cL_law 237 = .ok (.aload 8, 2) := by decide +kernel
theorem dL_law_239 : decode cL_law 239 = .ok (.invokestatic 144, 3) := by decide +kernel
theorem dL_law_242 : decode cL_law 242 = .ok (.ifCond .eq 7, 3) := by decide +kernel
theorem dL_law_245 : decode cL_law 245 = .ok (.iconst 1, 1) := by decide +kernel
theorem dL_law_246 : decode cL_law 246 = .ok (.goto 4, 3) := by decide +kernel
theorem dL_law_249 : decode cL_law 249 = .ok (.iconst 0, 1) := by decide +kernel
theorem dL_law_250 : decode cL_law 250 = .ok (.istore 9, 2) := by decide +kernel
theorem dL_law_252 : decode cL_law 252 = .ok (.iinc 11 1, 3) := by decide +kernel
theorem dL_law_255 : decode cL_law 255 = .ok (.goto (-74), 3) := by decide +kernel
theorem dL_law_258 : decode cL_law 258 = .ok (.iload 9, 2) := by decide +kernel
theorem dL_law_260 : decode cL_law 260 = .ok (.ifCond .eq 45, 3) := by decide +kernel
theorem dL_law_263 : decode cL_law 263 = .ok (.aload_n 1, 1) := by decide +kernel
theorem dL_law_264 : decode cL_law 264 = .ok (.bipush 14, 2) := by decide +kernel
theorem dL_law_266 : decode cL_law 266 = .ok (.invokevirtual 140, 3) := by decide +kernel
theorem dL_law_269 : decode cL_law 269 = .ok (.iconst (-1), 1) := by decide +kernel
theorem dL_law_270 : decode cL_law 270 = .ok (.if_icmp .ne 35, 3) := by decide +kernel
theorem dL_law_273 : decode cL_law 273 = .ok (.aload_n 1, 1) := by decide +kernel
theorem dL_law_274 : decode cL_law 274 = .ok (.iconst (-1), 1) := by decide +kernel
theorem dL_law_275 : decode cL_law 275 = .ok (.invokevirtual 140, 3) := by decide +kernel
theorem dL_law_278 : decode cL_law 278 = .ok (.iconst (-1), 1) := by decide +kernel
theorem dL_law_279 : decode cL_law 279 = .ok (.if_icmp .ne 26, 3) := by decide +kernel
theorem dL_law_282 : decode cL_law 282 = .ok (.aload_n 1, 1) := by decide +kernel
theorem dL_law_283 : decode cL_law 283 = .ok (.bipush 8, 2) := by decide +kernel
theorem dL_law_285 : decode cL_law 285 = .ok (.invokevirtual 131, 3) := by decide +kernel
theorem dL_law_288 : decode cL_law 288 = .ok (.iconst (-1), 1) := by decide +kernel
theorem dL_law_289 : decode cL_law 289 = .ok (.if_icmp .ne 16, 3) := by decide +kernel
theorem dL_law_292 : decode cL_law 292 = .ok (.aload_n 1, 1) := by decide +kernel
theorem dL_law_293 : decode cL_law 293 = .ok (.iconst (-1), 1) := by decide +kernel
theorem dL_law_294 : decode cL_law 294 = .ok (.invokevirtual 131, 3) := by decide +kernel
theorem dL_law_297 : decode cL_law 297 = .ok (.iconst (-1), 1) := by decide +kernel
theorem dL_law_298 : decode cL_law 298 = .ok (.if_icmp .ne 7, 3) := by decide +kernel
theorem dL_law_301 : decode cL_law 301 = .ok (.iconst 1, 1) := by decide +kernel
theorem dL_law_302 : decode cL_law 302 = .ok (.goto 4, 3) := by decide +kernel
theorem dL_law_305 : decode cL_law 305 = .ok (.iconst 0, 1) := by decide +kernel
theorem dL_law_306 : decode cL_law 306 = .ok (.ireturn, 1) := by decide +kernel
abbrev vwCl : List vw_C := [(RX0, TX0, 5), (RX1, TX1, 3), (RX2, TX2, 3), (RX3, TX3, 3), (RX4, TX4, 4), (RX5, TX5, 10), (RX6, TX6, 2), (RX7, TX7, 6)]
