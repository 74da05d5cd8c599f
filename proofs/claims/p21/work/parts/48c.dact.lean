theorem dL_below_0 : decode cL_below 0 = .ok (.iload_n 0, 1) := by decide +kernel
theorem dL_below_1 : decode cL_below 1 = .ok (.ldc 7, 2) := by decide +kernel
theorem dL_below_3 : decode cL_below 3 = .ok (.iand, 1) := by decide +kernel
theorem dL_below_4 : decode cL_below 4 = .ok (.iload_n 1, 1) := by decide +kernel
theorem dL_below_5 : decode cL_below 5 = .ok (.irem, 1) := by decide +kernel
theorem dL_below_6 : decode cL_below 6 = .ok (.ireturn, 1) := by decide +kernel
theorem dL_cell_0 : decode cL_cell 0 = .ok (.iload_n 1, 1) := by decide +kernel
theorem dL_cell_1 : decode cL_cell 1 = .ok (.aload_n 0, 1) := by decide +kernel
theorem dL_cell_2 : decode cL_cell 2 = .ok (.arraylength, 1) := by decide +kernel
theorem dL_cell_3 : decode cL_cell 3 = .ok (.if_icmp .ge 9, 3) := by decide +kernel
theorem dL_cell_6 : decode cL_cell 6 = .ok (.aload_n 0, 1) := by decide +kernel
theorem dL_cell_7 : decode cL_cell 7 = .ok (.iload_n 1, 1) := by decide +kernel
theorem dL_cell_8 : decode cL_cell 8 = .ok (.iaload, 1) := by decide +kernel
theorem dL_cell_9 : decode cL_cell 9 = .ok (.goto 9, 3) := by decide +kernel
theorem dL_cell_12 : decode cL_cell 12 = .ok (.ldc 8, 2) := by decide +kernel
theorem dL_cell_14 : decode cL_cell 14 = .ok (.iload_n 1, 1) := by decide +kernel
theorem dL_cell_15 : decode cL_cell 15 = .ok (.iconst 3, 1) := by decide +kernel
theorem dL_cell_16 : decode cL_cell 16 = .ok (.iadd, 1) := by decide +kernel
theorem dL_cell_17 : decode cL_cell 17 = .ok (.imul, 1) := by decide +kernel
theorem dL_cell_18 : decode cL_cell 18 = .ok (.ireturn, 1) := by decide +kernel
theorem dL_act_0 : decode cL_act 0 = .ok (.aload_n 1, 1) := by decide +kernel
theorem dL_act_1 : decode cL_act 1 = .ok (.getfield 9, 3) := by decide +kernel
theorem dL_act_4 : decode cL_act 4 = .ok (.arraylength, 1) := by decide +kernel
theorem dL_act_5 : decode cL_act 5 = .ok (.istore_n 3, 1) := by decide +kernel
theorem dL_act_6 : decode cL_act 6 = .ok (.aload_n 1, 1) := by decide +kernel
theorem dL_act_7 : decode cL_act 7 = .ok (.getfield 15, 3) := by decide +kernel
theorem dL_act_10 : decode cL_act 10 = .ok (.arraylength, 1) := by decide +kernel
theorem dL_act_11 : decode cL_act 11 = .ok (.istore 4, 2) := by decide +kernel
theorem dL_act_13 : decode cL_act 13 = .ok (.aload_n 1, 1) := by decide +kernel
theorem dL_act_14 : decode cL_act 14 = .ok (.getfield 19, 3) := by decide +kernel
theorem dL_act_17 : decode cL_act 17 = .ok (.ifCond .lt 7, 3) := by decide +kernel
theorem dL_act_20 : decode cL_act 20 = .ok (.iconst 1, 1) := by decide +kernel
theorem dL_act_21 : decode cL_act 21 = .ok (.goto 4, 3) := by decide +kernel
theorem dL_act_24 : decode cL_act 24 = .ok (.iconst 0, 1) := by decide +kernel
theorem dL_act_25 : decode cL_act 25 = .ok (.istore 5, 2) := by decide +kernel
theorem dL_act_27 : decode cL_act 27 = .ok (.iload_n 2, 1) := by decide +kernel
theorem dL_act_28 : decode cL_act 28 = .ok (.bipush 9, 2) := by decide +kernel
theorem dL_act_30 : decode cL_act 30 = .ok (.ishr, 1) := by decide +kernel
theorem dL_act_31 : decode cL_act 31 = .ok (.bipush 13, 2) := by decide +kernel
theorem dL_act_33 : decode cL_act 33 = .ok (.invokestatic 23, 3) := by decide +kernel
theorem dL_act_36 : decode cL_act 36 = .ok (.tableswitch 447 0 8 #[52, 52, 174, 174, 174, 242, 343, 343, 399], 52) := by decide +kernel
theorem dL_act_88 : decode cL_act 88 = .ok (.iload_n 3, 1) := by decide +kernel
theorem dL_act_89 : decode cL_act 89 = .ok (.bipush 8, 2) := by decide +kernel
theorem dL_act_91 : decode cL_act 91 = .ok (.if_icmp .eq 8, 3) := by decide +kernel
theorem dL_act_94 : decode cL_act 94 = .ok (.iload 5, 2) := by decide +kernel
theorem dL_act_96 : decode cL_act 96 = .ok (.ifCond .eq 5, 3) := by decide +kernel
theorem dL_act_99 : decode cL_act 99 = .ok (.iconst 1, 1) := by decide +kernel
theorem dL_act_100 : decode cL_act 100 = .ok (.ireturn, 1) := by decide +kernel
theorem dL_act_101 : decode cL_act 101 = .ok (.iload_n 3, 1) := by decide +kernel
theorem dL_act_102 : decode cL_act 102 = .ok (.iconst 1, 1) := by decide +kernel
theorem dL_act_103 : decode cL_act 103 = .ok (.iadd, 1) := by decide +kernel
theorem dL_act_104 : decode cL_act 104 = .ok (.anewarray 29, 3) := by decide +kernel
theorem dL_act_107 : decode cL_act 107 = .ok (.astore 6, 2) := by decide +kernel
theorem dL_act_109 : decode cL_act 109 = .ok (.iconst 0, 1) := by decide +kernel
theorem dL_act_110 : decode cL_act 110 = .ok (.istore 7, 2) := by decide +kernel
theorem dL_act_112 : decode cL_act 112 = .ok (.iload 7, 2) := by decide +kernel
theorem dL_act_114 : decode cL_act 114 = .ok (.iload_n 3, 1) := by decide +kernel
theorem dL_act_115 : decode cL_act 115 = .ok (.if_icmp .ge 21, 3) := by decide +kernel
theorem dL_act_118 : decode cL_act 118 = .ok (.aload 6, 2) := by decide +kernel
theorem dL_act_120 : decode cL_act 120 = .ok (.iload 7, 2) := by decide +kernel
theorem dL_act_122 : decode cL_act 122 = .ok (.aload_n 1, 1) := by decide +kernel
theorem dL_act_123 : decode cL_act 123 = .ok (.getfield 9, 3) := by decide +kernel
theorem dL_act_126 : decode cL_act 126 = .ok (.iload 7, 2) := by decide +kernel
theorem dL_act_128 : decode cL_act 128 = .ok (.aaload, 1) := by decide +kernel
theorem dL_act_129 : decode cL_act 129 = .ok (.aastore, 1) := by decide +kernel
theorem dL_act_130 : decode cL_act 130 = .ok (.iinc 7 1, 3) := by decide +kernel
theorem dL_act_133 : decode cL_act 133 = .ok (.goto (-21), 3) := by decide +kernel
theorem dL_act_136 : decode cL_act 136 = .ok (.aload 6, 2) := by decide +kernel
theorem dL_act_138 : decode cL_act 138 = .ok (.iload_n 3, 1) := by decide +kernel
theorem dL_act_139 : decode cL_act 139 = .ok (.new 29, 3) := by decide +kernel
theorem dL_act_142 : decode cL_act 142 = .ok (.dup, 1) := by decide +kernel
theorem dL_act_143 : decode cL_act 143 = .ok (.invokespecial 31, 3) := by decide +kernel
theorem dL_act_146 : decode cL_act 146 = .ok (.aastore, 1) := by decide +kernel
theorem dL_act_147 : decode cL_act 147 = .ok (.aload 6, 2) := by decide +kernel
theorem dL_act_149 : decode cL_act 149 = .ok (.iload_n 3, 1) := by decide +kernel
theorem dL_act_150 : decode cL_act 150 = .ok (.aaload, 1) := by decide +kernel
theorem dL_act_151 : decode cL_act 151 = .ok (.iconst 1, 1) := by decide +kernel
theorem dL_act_152 : decode cL_act 152 = .ok (.iload_n 2, 1) := by decide +kernel
theorem dL_act_153 : decode cL_act 153 = .ok (.bipush 9, 2) := by decide +kernel
theorem dL_act_155 : decode cL_act 155 = .ok (.invokestatic 23, 3) := by decide +kernel
theorem dL_act_158 : decode cL_act 158 = .ok (.iadd, 1) := by decide +kernel
theorem dL_act_159 : decode cL_act 159 = .ok (.putfield 32, 3) := by decide +kernel
theorem dL_act_162 : decode cL_act 162 = .ok (.aload 6, 2) := by decide +kernel
theorem dL_act_164 : decode cL_act 164 = .ok (.iload_n 3, 1) := by decide +kernel
theorem dL_act_165 : decode cL_act 165 = .ok (.aaload, 1) := by decide +kernel
theorem dL_act_166 : decode cL_act 166 = .ok (.iload_n 2, 1) := by decide +kernel
theorem dL_act_167 : decode cL_act 167 = .ok (.iconst 2, 1) := by decide +kernel
theorem dL_act_168 : decode cL_act 168 = .ok (.ishr, 1) := by decide +kernel
theorem dL_act_169 : decode cL_act 169 = .ok (.iconst 3, 1) := by decide +kernel
theorem dL_act_170 : decode cL_act 170 = .ok (.invokestatic 23, 3) := by decide +kernel
theorem dL_act_173 : decode cL_act 173 = .ok (.putfield 35, 3) := by decide +kernel
theorem dL_act_176 : decode cL_act 176 = .ok (.aload_n 1, 1) := by decide +kernel
theorem dL_act_177 : decode cL_act 177 = .ok (.aload 6, 2) := by decide +kernel
theorem dL_act_179 : decode cL_act 179 = .ok (.putfield 9, 3) := by decide +kernel
theorem dL_act_182 : decode cL_act 182 = .ok (.aload_n 0, 1) := by decide +kernel
theorem dL_act_183 : decode cL_act 183 = .ok (.aload 6, 2) := by decide +kernel
theorem dL_act_185 : decode cL_act 185 = .ok (.iload_n 3, 1) := by decide +kernel
theorem dL_act_186 : decode cL_act 186 = .ok (.aaload, 1) := by decide +kernel
theorem dL_act_187 : decode cL_act 187 = .ok (.getfield 32, 3) := by decide +kernel
theorem dL_act_190 : decode cL_act 190 = .ok (.aload 6, 2) := by decide +kernel
theorem dL_act_192 : decode cL_act 192 = .ok (.iload_n 3, 1) := by decide +kernel
theorem dL_act_193 : decode cL_act 193 = .ok (.aaload, 1) := by decide +kernel
theorem dL_act_194 : decode cL_act 194 = .ok (.getfield 35, 3) := by decide +kernel
theorem dL_act_197 : decode cL_act 197 = .ok (.invokevirtual 38, 3) := by decide +kernel
theorem dL_act_200 : decode cL_act 200 = .ok (.iload_n 3, 1) := by decide +kernel
theorem dL_act_201 : decode cL_act 201 = .ok (.if_icmp .ne 7, 3) := by decide +kernel
theorem dL_act_204 : decode cL_act 204 = .ok (.iconst 1, 1) := by decide +kernel
theorem dL_act_205 : decode cL_act 205 = .ok (.goto 4, 3) := by decide +kernel
theorem dL_act_208 : decode cL_act 208 = .ok (.iconst 0, 1) := by decide +kernel
theorem dL_act_209 : decode cL_act 209 = .ok (.ireturn, 1) := by decide +kernel
theorem dL_act_210 : decode cL_act 210 = .ok (.iload_n 3, 1) := by decide +kernel
theorem dL_act_211 : decode cL_act 211 = .ok (.ifCond .eq 8, 3) := by decide +kernel
theorem dL_act_214 : decode cL_act 214 = .ok (.iload 5, 2) := by decide +kernel
theorem dL_act_216 : decode cL_act 216 = .ok (.ifCond .eq 5, 3) := by decide +kernel
theorem dL_act_219 : decode cL_act 219 = .ok (.iconst 1, 1) := by decide +kernel
theorem dL_act_220 : decode cL_act 220 = .ok (.ireturn, 1) := by decide +kernel
theorem dL_act_221 : decode cL_act 221 = .ok (.aload_n 1, 1) := by decide +kernel
theorem dL_act_222 : decode cL_act 222 = .ok (.getfield 9, 3) := by decide +kernel
theorem dL_act_225 : decode cL_act 225 = .ok (.iload_n 2, 1) := by decide +kernel
theorem dL_act_226 : decode cL_act 226 = .ok (.iload_n 3, 1) := by decide +kernel
theorem dL_act_227 : decode cL_act 227 = .ok (.invokestatic 23, 3) := by decide +kernel
theorem dL_act_230 : decode cL_act 230 = .ok (.aaload, 1) := by decide +kernel
theorem dL_act_231 : decode cL_act 231 = .ok (.astore 7, 2) := by decide +kernel
theorem dL_act_233 : decode cL_act 233 = .ok (.aload 7, 2) := by decide +kernel
theorem dL_act_235 : decode cL_act 235 = .ok (.getfield 43, 3) := by decide +kernel
theorem dL_act_238 : decode cL_act 238 = .ok (.istore 8, 2) := by decide +kernel
theorem dL_act_240 : decode cL_act 240 = .ok (.aload 7, 2) := by decide +kernel
theorem dL_act_242 : decode cL_act 242 = .ok (.iload_n 2, 1) := by decide +kernel
theorem dL_act_243 : decode cL_act 243 = .ok (.iconst 3, 1) := by decide +kernel
theorem dL_act_244 : decode cL_act 244 = .ok (.ishr, 1) := by decide +kernel
theorem dL_act_245 : decode cL_act 245 = .ok (.bipush 10, 2) := by decide +kernel
theorem dL_act_247 : decode cL_act 247 = .ok (.invokestatic 23, 3) := by decide +kernel
theorem dL_act_250 : decode cL_act 250 = .ok (.putfield 43, 3) := by decide +kernel
theorem dL_act_253 : decode cL_act 253 = .ok (.aload_n 0, 1) := by decide +kernel
theorem dL_act_254 : decode cL_act 254 = .ok (.iload_n 2, 1) := by decide +kernel
theorem dL_act_255 : decode cL_act 255 = .ok (.iload_n 3, 1) := by decide +kernel
theorem dL_act_256 : decode cL_act 256 = .ok (.invokestatic 23, 3) := by decide +kernel
theorem dL_act_259 : decode cL_act 259 = .ok (.aload 7, 2) := by decide +kernel
theorem dL_act_261 : decode cL_act 261 = .ok (.getfield 43, 3) := by decide +kernel
theorem dL_act_264 : decode cL_act 264 = .ok (.invokevirtual 46, 3) := by decide +kernel
theorem dL_act_267 : decode cL_act 267 = .ok (.iload 8, 2) := by decide +kernel
theorem dL_act_269 : decode cL_act 269 = .ok (.if_icmp .ne 7, 3) := by decide +kernel
theorem dL_act_272 : decode cL_act 272 = .ok (.iconst 1, 1) := by decide +kernel
theorem dL_act_273 : decode cL_act 273 = .ok (.goto 4, 3) := by decide +kernel
theorem dL_act_276 : decode cL_act 276 = .ok (.iconst 0, 1) := by decide +kernel
theorem dL_act_277 : decode cL_act 277 = .ok (.ireturn, 1) := by decide +kernel
theorem dL_act_278 : decode cL_act 278 = .ok (.iload 4, 2) := by decide +kernel
theorem dL_act_280 : decode cL_act 280 = .ok (.iconst 3, 1) := by decide +kernel
theorem dL_act_281 : decode cL_act 281 = .ok (.if_icmp .ne 5, 3) := by decide +kernel
theorem dL_act_284 : decode cL_act 284 = .ok (.iconst 1, 1) := by decide +kernel
theorem dL_act_285 : decode cL_act 285 = .ok (.ireturn, 1) := by decide +kernel
theorem dL_act_286 : decode cL_act 286 = .ok (.iload 4, 2) := by decide +kernel
theorem dL_act_288 : decode cL_act 288 = .ok (.iconst 1, 1) := by decide +kernel
theorem dL_act_289 : decode cL_act 289 = .ok (.iadd, 1) := by decide +kernel
theorem dL_act_290 : decode cL_act 290 = .ok (.newarray .int, 2) := by decide +kernel
theorem dL_act_292 : decode cL_act 292 = .ok (.astore 9, 2) := by decide +kernel
theorem dL_act_294 : decode cL_act 294 = .ok (.iconst 0, 1) := by decide +kernel
theorem dL_act_295 : decode cL_act 295 = .ok (.istore 10, 2) := by decide +kernel
theorem dL_act_297 : decode cL_act 297 = .ok (.iload 10, 2) := by decide +kernel
theorem dL_act_299 : decode cL_act 299 = .ok (.iload 4, 2) := by decide +kernel
theorem dL_act_301 : decode cL_act 301 = .ok (.if_icmp .ge 21, 3) := by decide +kernel
theorem dL_act_304 : decode cL_act 304 = .ok (.aload 9, 2) := by decide +kernel
theorem dL_act_306 : decode cL_act 306 = .ok (.iload 10, 2) := by decide +kernel
theorem dL_act_308 : decode cL_act 308 = .ok (.aload_n 1, 1) := by decide +kernel
theorem dL_act_309 : decode cL_act 309 = .ok (.getfield 15, 3) := by decide +kernel
theorem dL_act_312 : decode cL_act 312 = .ok (.iload 10, 2) := by decide +kernel
theorem dL_act_314 : decode cL_act 314 = .ok (.iaload, 1) := by decide +kernel
theorem dL_act_315 : decode cL_act 315 = .ok (.iastore, 1) := by decide +kernel
theorem dL_act_316 : decode cL_act 316 = .ok (.iinc 10 1, 3) := by decide +kernel
theorem dL_act_319 : decode cL_act 319 = .ok (.goto (-22), 3) := by decide +kernel
theorem dL_act_322 : decode cL_act 322 = .ok (.aload 9, 2) := by decide +kernel
theorem dL_act_324 : decode cL_act 324 = .ok (.iload 4, 2) := by decide +kernel
theorem dL_act_326 : decode cL_act 326 = .ok (.iload_n 2, 1) := by decide +kernel
theorem dL_act_327 : decode cL_act 327 = .ok (.iconst 1, 1) := by decide +kernel
theorem dL_act_328 : decode cL_act 328 = .ok (.ishr, 1) := by decide +kernel
theorem dL_act_329 : decode cL_act 329 = .ok (.iload_n 2, 1) := by decide +kernel
theorem dL_act_330 : decode cL_act 330 = .ok (.iconst 5, 1) := by decide +kernel
theorem dL_act_331 : decode cL_act 331 = .ok (.ishr, 1) := by decide +kernel
theorem dL_act_332 : decode cL_act 332 = .ok (.iconst 2, 1) := by decide +kernel
theorem dL_act_333 : decode cL_act 333 = .ok (.invokestatic 23, 3) := by decide +kernel
theorem dL_act_336 : decode cL_act 336 = .ok (.ifCond .ne 9, 3) := by decide +kernel
theorem dL_act_339 : decode cL_act 339 = .ok (.sipush 200, 3) := by decide +kernel
theorem dL_act_342 : decode cL_act 342 = .ok (.goto 5, 3) := by decide +kernel
theorem dL_act_345 : decode cL_act 345 = .ok (.bipush 60, 2) := by decide +kernel
theorem dL_act_347 : decode cL_act 347 = .ok (.invokestatic 23, 3) := by decide +kernel
theorem dL_act_350 : decode cL_act 350 = .ok (.iastore, 1) := by decide +kernel
theorem dL_act_351 : decode cL_act 351 = .ok (.aload_n 1, 1) := by decide +kernel
theorem dL_act_352 : decode cL_act 352 = .ok (.aload 9, 2) := by decide +kernel
theorem dL_act_354 : decode cL_act 354 = .ok (.putfield 15, 3) := by decide +kernel
theorem dL_act_357 : decode cL_act 357 = .ok (.aload_n 0, 1) := by decide +kernel
theorem dL_act_358 : decode cL_act 358 = .ok (.aload 9, 2) := by decide +kernel
theorem dL_act_360 : decode cL_act 360 = .ok (.iload 4, 2) := by decide +kernel
theorem dL_act_362 : decode cL_act 362 = .ok (.iaload, 1) := by decide +kernel
theorem dL_act_363 : decode cL_act 363 = .ok (.invokevirtual 49, 3) := by decide +kernel
theorem dL_act_366 : decode cL_act 366 = .ok (.iload 4, 2) := by decide +kernel
theorem dL_act_368 : decode cL_act 368 = .ok (.iconst 1, 1) := by decide +kernel
theorem dL_act_369 : decode cL_act 369 = .ok (.iadd, 1) := by decide +kernel
theorem dL_act_370 : decode cL_act 370 = .ok (.if_icmp .ne 7, 3) := by decide +kernel
theorem dL_act_373 : decode cL_act 373 = .ok (.iconst 1, 1) := by decide +kernel
theorem dL_act_374 : decode cL_act 374 = .ok (.goto 4, 3) := by decide +kernel
theorem dL_act_377 : decode cL_act 377 = .ok (.iconst 0, 1) := by decide +kernel
theorem dL_act_378 : decode cL_act 378 = .ok (.ireturn, 1) := by decide +kernel
theorem dL_act_379 : decode cL_act 379 = .ok (.iload_n 2, 1) := by decide +kernel
theorem dL_act_380 : decode cL_act 380 = .ok (.bipush 10, 2) := by decide +kernel
theorem dL_act_382 : decode cL_act 382 = .ok (.invokestatic 23, 3) := by decide +kernel
theorem dL_act_385 : decode cL_act 385 = .ok (.istore 10, 2) := by decide +kernel
theorem dL_act_387 : decode cL_act 387 = .ok (.aload_n 1, 1) := by decide +kernel
theorem dL_act_388 : decode cL_act 388 = .ok (.getfield 53, 3) := by decide +kernel
theorem dL_act_391 : decode cL_act 391 = .ok (.iload 10, 2) := by decide +kernel
theorem dL_act_393 : decode cL_act 393 = .ok (.iaload, 1) := by decide +kernel
theorem dL_act_394 : decode cL_act 394 = .ok (.istore 11, 2) := by decide +kernel
theorem dL_act_396 : decode cL_act 396 = .ok (.aload_n 1, 1) := by decide +kernel
theorem dL_act_397 : decode cL_act 397 = .ok (.getfield 53, 3) := by decide +kernel
theorem dL_act_400 : decode cL_act 400 = .ok (.iload 10, 2) := by decide +kernel
theorem dL_act_402 : decode cL_act 402 = .ok (.iload_n 2, 1) := by decide +kernel
theorem dL_act_403 : decode cL_act 403 = .ok (.iconst 3, 1) := by decide +kernel
theorem dL_act_404 : decode cL_act 404 = .ok (.ishr, 1) := by decide +kernel
theorem dL_act_405 : decode cL_act 405 = .ok (.bipush 10, 2) := by decide +kernel
theorem dL_act_407 : decode cL_act 407 = .ok (.invokestatic 23, 3) := by decide +kernel
theorem dL_act_410 : decode cL_act 410 = .ok (.iastore, 1) := by decide +kernel
theorem dL_act_411 : decode cL_act 411 = .ok (.aload_n 0, 1) := by decide +kernel
theorem dL_act_412 : decode cL_act 412 = .ok (.iload 10, 2) := by decide +kernel
theorem dL_act_414 : decode cL_act 414 = .ok (.aload_n 1, 1) := by decide +kernel
theorem dL_act_415 : decode cL_act 415 = .ok (.getfield 53, 3) := by decide +kernel
theorem dL_act_418 : decode cL_act 418 = .ok (.iload 10, 2) := by decide +kernel
theorem dL_act_420 : decode cL_act 420 = .ok (.iaload, 1) := by decide +kernel
theorem dL_act_421 : decode cL_act 421 = .ok (.invokevirtual 56, 3) := by decide +kernel
theorem dL_act_424 : decode cL_act 424 = .ok (.iload 11, 2) := by decide +kernel
theorem dL_act_426 : decode cL_act 426 = .ok (.if_icmp .ne 7, 3) := by decide +kernel
theorem dL_act_429 : decode cL_act 429 = .ok (.iconst 1, 1) := by decide +kernel
theorem dL_act_430 : decode cL_act 430 = .ok (.goto 4, 3) := by decide +kernel
theorem dL_act_433 : decode cL_act 433 = .ok (.iconst 0, 1) := by decide +kernel
theorem dL_act_434 : decode cL_act 434 = .ok (.ireturn, 1) := by decide +kernel
theorem dL_act_435 : decode cL_act 435 = .ok (.iload 5, 2) := by decide +kernel
theorem dL_act_437 : decode cL_act 437 = .ok (.ifCond .eq 5, 3) := by decide +kernel
theorem dL_act_440 : decode cL_act 440 = .ok (.iconst 1, 1) := by decide +kernel
theorem dL_act_441 : decode cL_act 441 = .ok (.ireturn, 1) := by decide +kernel
theorem dL_act_442 : decode cL_act 442 = .ok (.aload_n 1, 1) := by decide +kernel
theorem dL_act_443 : decode cL_act 443 = .ok (.getfield 59, 3) := by decide +kernel
theorem dL_act_446 : decode cL_act 446 = .ok (.istore 12, 2) := by decide +kernel
theorem dL_act_448 : decode cL_act 448 = .ok (.aload_n 1, 1) := by decide +kernel
theorem dL_act_449 : decode cL_act 449 = .ok (.bipush 20, 2) := by decide +kernel
theorem dL_act_451 : decode cL_act 451 = .ok (.iload_n 2, 1) := by decide +kernel
theorem dL_act_452 : decode cL_act 452 = .ok (.iconst 1, 1) := by decide +kernel
theorem dL_act_453 : decode cL_act 453 = .ok (.ishr, 1) := by decide +kernel
theorem dL_act_454 : decode cL_act 454 = .ok (.sipush 181, 3) := by decide +kernel
theorem dL_act_457 : decode cL_act 457 = .ok (.invokestatic 23, 3) := by decide +kernel
theorem dL_act_460 : decode cL_act 460 = .ok (.iadd, 1) := by decide +kernel
theorem dL_act_461 : decode cL_act 461 = .ok (.putfield 59, 3) := by decide +kernel
theorem dL_act_464 : decode cL_act 464 = .ok (.aload_n 0, 1) := by decide +kernel
theorem dL_act_465 : decode cL_act 465 = .ok (.aload_n 1, 1) := by decide +kernel
theorem dL_act_466 : decode cL_act 466 = .ok (.getfield 59, 3) := by decide +kernel
theorem dL_act_469 : decode cL_act 469 = .ok (.invokevirtual 62, 3) := by decide +kernel
theorem dL_act_472 : decode cL_act 472 = .ok (.iload 12, 2) := by decide +kernel
theorem dL_act_474 : decode cL_act 474 = .ok (.if_icmp .ne 7, 3) := by decide +kernel
theorem dL_act_477 : decode cL_act 477 = .ok (.iconst 1, 1) := by decide +kernel
theorem dL_act_478 : decode cL_act 478 = .ok (.goto 4, 3) := by decide +kernel
theorem dL_act_481 : decode cL_act 481 = .ok (.iconst 0, 1) := by decide +kernel
theorem dL_act_482 : decode cL_act 482 = .ok (.ireturn, 1) := by decide +kernel
theorem dL_act_483 : decode cL_act 483 = .ok (.iload 5, 2) := by decide +kernel
theorem dL_act_485 : decode cL_act 485 = .ok (.ifCond .ne 10, 3) := by decide +kernel
theorem dL_act_488 : decode cL_act 488 = .ok (.aload_n 1, 1) := by decide +kernel
theorem dL_act_489 : decode cL_act 489 = .ok (.invokevirtual 65, 3) := by decide +kernel
theorem dL_act_492 : decode cL_act 492 = .ok (.ifCond .ne 5, 3) := by decide +kernel
theorem dL_act_495 : decode cL_act 495 = .ok (.iconst 1, 1) := by decide +kernel
theorem dL_act_496 : decode cL_act 496 = .ok (.ireturn, 1) := by decide +kernel
theorem dL_act_497 : decode cL_act 497 = .ok (.aload_n 1, 1) := by decide +kernel
theorem dL_act_498 : decode cL_act 498 = .ok (.dup, 1) := by decide +kernel
theorem dL_act_499 : decode cL_act 499 = .ok (.getfield 69, 3) := by decide +kernel
theorem dL_act_502 : decode cL_act 502 = .ok (.iconst 1, 1) := by decide +kernel
theorem dL_act_503 : decode cL_act 503 = .ok (.iadd, 1) := by decide +kernel
theorem dL_act_504 : decode cL_act 504 = .ok (.putfield 69, 3) := by decide +kernel
theorem dL_act_507 : decode cL_act 507 = .ok (.aload_n 0, 1) := by decide +kernel
theorem dL_act_508 : decode cL_act 508 = .ok (.invokevirtual 72, 3) := by decide +kernel
theorem dL_act_511 : decode cL_act 511 = .ok (.aload_n 1, 1) := by decide +kernel
theorem dL_act_512 : decode cL_act 512 = .ok (.invokevirtual 75, 3) := by decide +kernel
theorem dL_act_515 : decode cL_act 515 = .ok (.if_icmp .ne 7, 3) := by decide +kernel
theorem dL_act_518 : decode cL_act 518 = .ok (.iconst 1, 1) := by decide +kernel
theorem dL_act_519 : decode cL_act 519 = .ok (.goto 4, 3) := by decide +kernel
theorem dL_act_522 : decode cL_act 522 = .ok (.iconst 0, 1) := by decide +kernel
theorem dL_act_523 : decode cL_act 523 = .ok (.ireturn, 1) := by decide +kernel
theorem dL_build_0 : decode cL_build 0 = .ok (.new 10, 3) := by decide +kernel
theorem dL_build_3 : decode cL_build 3 = .ok (.dup, 1) := by decide +kernel
theorem dL_build_4 : decode cL_build 4 = .ok (.invokespecial 76, 3) := by decide +kernel
theorem dL_build_7 : decode cL_build 7 = .ok (.astore_n 2, 1) := by decide +kernel
theorem dL_build_8 : decode cL_build 8 = .ok (.iconst 0, 1) := by decide +kernel
theorem dL_build_9 : decode cL_build 9 = .ok (.istore_n 3, 1) := by decide +kernel
theorem dL_build_10 : decode cL_build 10 = .ok (.iload_n 3, 1) := by decide +kernel
theorem dL_build_11 : decode cL_build 11 = .ok (.bipush 28, 2) := by decide +kernel
theorem dL_build_13 : decode cL_build 13 = .ok (.if_icmp .ge 85, 3) := by decide +kernel
theorem dL_build_16 : decode cL_build 16 = .ok (.aload_n 0, 1) := by decide +kernel
theorem dL_build_17 : decode cL_build 17 = .ok (.aload_n 2, 1) := by decide +kernel
theorem dL_build_18 : decode cL_build 18 = .ok (.aload_n 1, 1) := by decide +kernel
theorem dL_build_19 : decode cL_build 19 = .ok (.iload_n 3, 1) := by decide +kernel
theorem dL_build_20 : decode cL_build 20 = .ok (.bipush 16, 2) := by decide +kernel
theorem dL_build_22 : decode cL_build 22 = .ok (.irem, 1) := by decide +kernel
theorem dL_build_23 : decode cL_build 23 = .ok (.invokestatic 77, 3) := by decide +kernel
theorem dL_build_26 : decode cL_build 26 = .ok (.iload_n 3, 1) := by decide +kernel
theorem dL_build_27 : decode cL_build 27 = .ok (.bipush 16, 2) := by decide +kernel
theorem dL_build_29 : decode cL_build 29 = .ok (.idiv, 1) := by decide +kernel
theorem dL_build_30 : decode cL_build 30 = .ok (.iconst 4, 1) := by decide +kernel
theorem dL_build_31 : decode cL_build 31 = .ok (.imul, 1) := by decide +kernel
theorem dL_build_32 : decode cL_build 32 = .ok (.ishr, 1) := by decide +kernel
theorem dL_build_33 : decode cL_build 33 = .ok (.sipush 251, 3) := by decide +kernel
theorem dL_build_36 : decode cL_build 36 = .ok (.iload_n 3, 1) := by decide +kernel
theorem dL_build_37 : decode cL_build 37 = .ok (.imul, 1) := by decide +kernel
theorem dL_build_38 : decode cL_build 38 = .ok (.iadd, 1) := by decide +kernel
theorem dL_build_39 : decode cL_build 39 = .ok (.iload_n 3, 1) := by decide +kernel
theorem dL_build_40 : decode cL_build 40 = .ok (.bipush 10, 2) := by decide +kernel
theorem dL_build_42 : decode cL_build 42 = .ok (.if_icmp .ge 14, 3) := by decide +kernel
theorem dL_build_45 : decode cL_build 45 = .ok (.sipush 512, 3) := by decide +kernel
theorem dL_build_48 : decode cL_build 48 = .ok (.iload_n 3, 1) := by decide +kernel
theorem dL_build_49 : decode cL_build 49 = .ok (.bipush 6, 2) := by decide +kernel
theorem dL_build_51 : decode cL_build 51 = .ok (.irem, 1) := by decide +kernel
theorem dL_build_52 : decode cL_build 52 = .ok (.imul, 1) := by decide +kernel
theorem dL_build_53 : decode cL_build 53 = .ok (.goto 4, 3) := by decide +kernel
theorem dL_build_56 : decode cL_build 56 = .ok (.iconst 0, 1) := by decide +kernel
theorem dL_build_57 : decode cL_build 57 = .ok (.iadd, 1) := by decide +kernel
theorem dL_build_58 : decode cL_build 58 = .ok (.invokestatic 81, 3) := by decide +kernel
theorem dL_build_61 : decode cL_build 61 = .ok (.ifCond .ne 5, 3) := by decide +kernel
theorem dL_build_64 : decode cL_build 64 = .ok (.aconst_null, 1) := by decide +kernel
theorem dL_build_65 : decode cL_build 65 = .ok (.areturn, 1) := by decide +kernel
theorem dL_build_66 : decode cL_build 66 = .ok (.iload_n 3, 1) := by decide +kernel
theorem dL_build_67 : decode cL_build 67 = .ok (.bipush 12, 2) := by decide +kernel
theorem dL_build_69 : decode cL_build 69 = .ok (.if_icmp .le 23, 3) := by decide +kernel
theorem dL_build_72 : decode cL_build 72 = .ok (.iload_n 3, 1) := by decide +kernel
theorem dL_build_73 : decode cL_build 73 = .ok (.iconst 3, 1) := by decide +kernel
theorem dL_build_74 : decode cL_build 74 = .ok (.irem, 1) := by decide +kernel
theorem dL_build_75 : decode cL_build 75 = .ok (.ifCond .ne 17, 3) := by decide +kernel
theorem dL_build_78 : decode cL_build 78 = .ok (.aload_n 0, 1) := by decide +kernel
theorem dL_build_79 : decode cL_build 79 = .ok (.iconst 1, 1) := by decide +kernel
theorem dL_build_80 : decode cL_build 80 = .ok (.invokevirtual 85, 3) := by decide +kernel
theorem dL_build_83 : decode cL_build 83 = .ok (.aload_n 2, 1) := by decide +kernel
theorem dL_build_84 : decode cL_build 84 = .ok (.invokevirtual 88, 3) := by decide +kernel
theorem dL_build_87 : decode cL_build 87 = .ok (.if_icmp .eq 5, 3) := by decide +kernel
theorem dL_build_90 : decode cL_build 90 = .ok (.aconst_null, 1) := by decide +kernel
theorem dL_build_91 : decode cL_build 91 = .ok (.areturn, 1) := by decide +kernel
theorem dL_build_92 : decode cL_build 92 = .ok (.iinc 3 1, 3) := by decide +kernel
theorem dL_build_95 : decode cL_build 95 = .ok (.goto (-85), 3) := by decide +kernel
theorem dL_build_98 : decode cL_build 98 = .ok (.aload_n 2, 1) := by decide +kernel
theorem dL_build_99 : decode cL_build 99 = .ok (.areturn, 1) := by decide +kernel
