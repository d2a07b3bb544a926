theorem dX12_tellHere_280 : decode cX12_tellHere 280 = .ok (.invokevirtual 257, 3) := by decide +kernel
theorem dX12_tellHere_283 : decode cX12_tellHere 283 = .ok (.ifCond .eq 22, 3) := by decide +kernel
theorem dX12_tellHere_286 : decode cX12_tellHere 286 = .ok (.aload_n 0, 1) := by decide +kernel
theorem dX12_tellHere_287 : decode cX12_tellHere 287 = .ok (.dup, 1) := by decide +kernel
theorem dX12_tellHere_288 : decode cX12_tellHere 288 = .ok (.getfield 233, 3) := by decide +kernel
theorem dX12_tellHere_291 : decode cX12_tellHere 291 = .ok (.iconst 1, 1) := by decide +kernel
theorem dX12_tellHere_292 : decode cX12_tellHere 292 = .ok (.iadd, 1) := by decide +kernel
theorem dX12_tellHere_293 : decode cX12_tellHere 293 = .ok (.putfield 233, 3) := by decide +kernel
theorem dX12_tellHere_296 : decode cX12_tellHere 296 = .ok (.aload_n 0, 1) := by decide +kernel
theorem dX12_tellHere_297 : decode cX12_tellHere 297 = .ok (.invokevirtual 368, 3) := by decide +kernel
theorem dX12_tellHere_300 : decode cX12_tellHere 300 = .ok (.ifCond .ne 26, 3) := by decide +kernel
theorem dX12_tellHere_303 : decode cX12_tellHere 303 = .ok (.iconst 0, 1) := by decide +kernel
theorem dX12_tellHere_304 : decode cX12_tellHere 304 = .ok (.ireturn, 1) := by decide +kernel
theorem dX12_tellHere_305 : decode cX12_tellHere 305 = .ok (.iload_n 1, 1) := by decide +kernel
theorem dX12_tellHere_306 : decode cX12_tellHere 306 = .ok (.ifCond .eq 14, 3) := by decide +kernel
theorem dX12_tellHere_309 : decode cX12_tellHere 309 = .ok (.aload_n 0, 1) := by decide +kernel
theorem dX12_tellHere_310 : decode cX12_tellHere 310 = .ok (.iconst 0, 1) := by decide +kernel
theorem dX12_tellHere_311 : decode cX12_tellHere 311 = .ok (.iconst 0, 1) := by decide +kernel
theorem dX12_tellHere_312 : decode cX12_tellHere 312 = .ok (.iconst 0, 1) := by decide +kernel
theorem dX12_tellHere_313 : decode cX12_tellHere 313 = .ok (.invokevirtual 401, 3) := by decide +kernel
theorem dX12_tellHere_316 : decode cX12_tellHere 316 = .ok (.pop, 1) := by decide +kernel
theorem dX12_tellHere_317 : decode cX12_tellHere 317 = .ok (.goto 9, 3) := by decide +kernel
theorem dX12_tellHere_320 : decode cX12_tellHere 320 = .ok (.aload_n 0, 1) := by decide +kernel
theorem dX12_tellHere_321 : decode cX12_tellHere 321 = .ok (.iconst 2, 1) := by decide +kernel
theorem dX12_tellHere_322 : decode cX12_tellHere 322 = .ok (.invokevirtual 260, 3) := by decide +kernel
theorem dX12_tellHere_325 : decode cX12_tellHere 325 = .ok (.ireturn, 1) := by decide +kernel
theorem dX12_tellHere_326 : decode cX12_tellHere 326 = .ok (.aload_n 0, 1) := by decide +kernel
theorem dX12_tellHere_327 : decode cX12_tellHere 327 = .ok (.iconst 2, 1) := by decide +kernel
theorem dX12_tellHere_328 : decode cX12_tellHere 328 = .ok (.iload 4, 2) := by decide +kernel
theorem dX12_tellHere_330 : decode cX12_tellHere 330 = .ok (.iconst 0, 1) := by decide +kernel
theorem dX12_tellHere_331 : decode cX12_tellHere 331 = .ok (.invokevirtual 401, 3) := by decide +kernel
theorem dX12_tellHere_334 : decode cX12_tellHere 334 = .ok (.pop, 1) := by decide +kernel
theorem dX12_tellHere_335 : decode cX12_tellHere 335 = .ok (.aload_n 0, 1) := by decide +kernel
theorem dX12_tellHere_336 : decode cX12_tellHere 336 = .ok (.iload_n 3, 1) := by decide +kernel
theorem dX12_tellHere_337 : decode cX12_tellHere 337 = .ok (.iconst 1, 1) := by decide +kernel
theorem dX12_tellHere_338 : decode cX12_tellHere 338 = .ok (.iconst 0, 1) := by decide +kernel
theorem dX12_tellHere_339 : decode cX12_tellHere 339 = .ok (.iload 4, 2) := by decide +kernel
theorem dX12_tellHere_341 : decode cX12_tellHere 341 = .ok (.iconst 1, 1) := by decide +kernel
theorem dX12_tellHere_342 : decode cX12_tellHere 342 = .ok (.iconst 1, 1) := by decide +kernel
theorem dX12_tellHere_343 : decode cX12_tellHere 343 = .ok (.invokevirtual 338, 3) := by decide +kernel
theorem dX12_tellHere_346 : decode cX12_tellHere 346 = .ok (.iconst 1, 1) := by decide +kernel
theorem dX12_tellHere_347 : decode cX12_tellHere 347 = .ok (.ireturn, 1) := by decide +kernel
theorem dX12_condition_0 : decode cX12_condition 0 = .ok (.aload_n 0, 1) := by decide +kernel
theorem dX12_condition_1 : decode cX12_condition 1 = .ok (.bipush 22, 2) := by decide +kernel
theorem dX12_condition_3 : decode cX12_condition 3 = .ok (.invokevirtual 356, 3) := by decide +kernel
theorem dX12_condition_6 : decode cX12_condition 6 = .ok (.ifCond .eq 23, 3) := by decide +kernel
theorem dX12_condition_9 : decode cX12_condition 9 = .ok (.aload_n 0, 1) := by decide +kernel
theorem dX12_condition_10 : decode cX12_condition 10 = .ok (.invokevirtual 368, 3) := by decide +kernel
theorem dX12_condition_13 : decode cX12_condition 13 = .ok (.ifCond .eq 16, 3) := by decide +kernel
theorem dX12_condition_16 : decode cX12_condition 16 = .ok (.aload_n 0, 1) := by decide +kernel
theorem dX12_condition_17 : decode cX12_condition 17 = .ok (.bipush 23, 2) := by decide +kernel
theorem dX12_condition_19 : decode cX12_condition 19 = .ok (.invokevirtual 362, 3) := by decide +kernel
theorem dX12_condition_22 : decode cX12_condition 22 = .ok (.ifCond .eq 7, 3) := by decide +kernel
theorem dX12_condition_25 : decode cX12_condition 25 = .ok (.iconst 1, 1) := by decide +kernel
theorem dX12_condition_26 : decode cX12_condition 26 = .ok (.goto 4, 3) := by decide +kernel
theorem dX12_condition_29 : decode cX12_condition 29 = .ok (.iconst 0, 1) := by decide +kernel
theorem dX12_condition_30 : decode cX12_condition 30 = .ok (.ireturn, 1) := by decide +kernel
theorem dX12_choice_0 : decode cX12_choice 0 = .ok (.aload_n 0, 1) := by decide +kernel
theorem dX12_choice_1 : decode cX12_choice 1 = .ok (.invokevirtual 269, 3) := by decide +kernel
theorem dX12_choice_4 : decode cX12_choice 4 = .ok (.ifCond .eq 10, 3) := by decide +kernel
theorem dX12_choice_7 : decode cX12_choice 7 = .ok (.aload_n 0, 1) := by decide +kernel
theorem dX12_choice_8 : decode cX12_choice 8 = .ok (.invokevirtual 436, 3) := by decide +kernel
theorem dX12_choice_11 : decode cX12_choice 11 = .ok (.ifCond .ne 5, 3) := by decide +kernel
theorem dX12_choice_14 : decode cX12_choice 14 = .ok (.iconst 0, 1) := by decide +kernel
theorem dX12_choice_15 : decode cX12_choice 15 = .ok (.ireturn, 1) := by decide +kernel
theorem dX12_choice_16 : decode cX12_choice 16 = .ok (.aload_n 0, 1) := by decide +kernel
theorem dX12_choice_17 : decode cX12_choice 17 = .ok (.bipush 13, 2) := by decide +kernel
theorem dX12_choice_19 : decode cX12_choice 19 = .ok (.iconst 0, 1) := by decide +kernel
theorem dX12_choice_20 : decode cX12_choice 20 = .ok (.iconst 0, 1) := by decide +kernel
theorem dX12_choice_21 : decode cX12_choice 21 = .ok (.invokevirtual 401, 3) := by decide +kernel
theorem dX12_choice_24 : decode cX12_choice 24 = .ok (.istore_n 1, 1) := by decide +kernel
theorem dX12_choice_25 : decode cX12_choice 25 = .ok (.aload_n 0, 1) := by decide +kernel
theorem dX12_choice_26 : decode cX12_choice 26 = .ok (.invokevirtual 439, 3) := by decide +kernel
theorem dX12_choice_29 : decode cX12_choice 29 = .ok (.ifCond .ne 5, 3) := by decide +kernel
theorem dX12_choice_32 : decode cX12_choice 32 = .ok (.iconst 0, 1) := by decide +kernel
theorem dX12_choice_33 : decode cX12_choice 33 = .ok (.ireturn, 1) := by decide +kernel
theorem dX12_choice_34 : decode cX12_choice 34 = .ok (.aload_n 0, 1) := by decide +kernel
theorem dX12_choice_35 : decode cX12_choice 35 = .ok (.getfield 230, 3) := by decide +kernel
theorem dX12_choice_38 : decode cX12_choice 38 = .ok (.ifCond .ne 62, 3) := by decide +kernel
theorem dX12_choice_41 : decode cX12_choice 41 = .ok (.aload_n 0, 1) := by decide +kernel
theorem dX12_choice_42 : decode cX12_choice 42 = .ok (.iconst 5, 1) := by decide +kernel
theorem dX12_choice_43 : decode cX12_choice 43 = .ok (.invokevirtual 263, 3) := by decide +kernel
theorem dX12_choice_46 : decode cX12_choice 46 = .ok (.ifCond .eq 54, 3) := by decide +kernel
theorem dX12_choice_49 : decode cX12_choice 49 = .ok (.aload_n 0, 1) := by decide +kernel
theorem dX12_choice_50 : decode cX12_choice 50 = .ok (.dup, 1) := by decide +kernel
theorem dX12_choice_51 : decode cX12_choice 51 = .ok (.getfield 233, 3) := by decide +kernel
theorem dX12_choice_54 : decode cX12_choice 54 = .ok (.iconst 1, 1) := by decide +kernel
theorem dX12_choice_55 : decode cX12_choice 55 = .ok (.iadd, 1) := by decide +kernel
theorem dX12_choice_56 : decode cX12_choice 56 = .ok (.putfield 233, 3) := by decide +kernel
theorem dX12_choice_59 : decode cX12_choice 59 = .ok (.aload_n 0, 1) := by decide +kernel
theorem dX12_choice_60 : decode cX12_choice 60 = .ok (.bipush 12, 2) := by decide +kernel
theorem dX12_choice_62 : decode cX12_choice 62 = .ok (.iconst 0, 1) := by decide +kernel
theorem dX12_choice_63 : decode cX12_choice 63 = .ok (.iconst 0, 1) := by decide +kernel
theorem dX12_choice_64 : decode cX12_choice 64 = .ok (.invokevirtual 401, 3) := by decide +kernel
theorem dX12_choice_67 : decode cX12_choice 67 = .ok (.istore_n 2, 1) := by decide +kernel
theorem dX12_choice_68 : decode cX12_choice 68 = .ok (.aload_n 0, 1) := by decide +kernel
theorem dX12_choice_69 : decode cX12_choice 69 = .ok (.getfield 107, 3) := by decide +kernel
theorem dX12_choice_72 : decode cX12_choice 72 = .ok (.iload_n 1, 1) := by decide +kernel
theorem dX12_choice_73 : decode cX12_choice 73 = .ok (.aload_n 0, 1) := by decide +kernel
theorem dX12_choice_74 : decode cX12_choice 74 = .ok (.getfield 276, 3) := by decide +kernel
theorem dX12_choice_77 : decode cX12_choice 77 = .ok (.iastore, 1) := by decide +kernel
theorem dX12_choice_78 : decode cX12_choice 78 = .ok (.aload_n 0, 1) := by decide +kernel
theorem dX12_choice_79 : decode cX12_choice 79 = .ok (.invokevirtual 439, 3) := by decide +kernel
theorem dX12_choice_82 : decode cX12_choice 82 = .ok (.ifCond .ne 5, 3) := by decide +kernel
theorem dX12_choice_85 : decode cX12_choice 85 = .ok (.iconst 0, 1) := by decide +kernel
theorem dX12_choice_86 : decode cX12_choice 86 = .ok (.ireturn, 1) := by decide +kernel
theorem dX12_choice_87 : decode cX12_choice 87 = .ok (.aload_n 0, 1) := by decide +kernel
theorem dX12_choice_88 : decode cX12_choice 88 = .ok (.getfield 107, 3) := by decide +kernel
theorem dX12_choice_91 : decode cX12_choice 91 = .ok (.iload_n 2, 1) := by decide +kernel
theorem dX12_choice_92 : decode cX12_choice 92 = .ok (.aload_n 0, 1) := by decide +kernel
theorem dX12_choice_93 : decode cX12_choice 93 = .ok (.getfield 276, 3) := by decide +kernel
theorem dX12_choice_96 : decode cX12_choice 96 = .ok (.iastore, 1) := by decide +kernel
theorem dX12_choice_97 : decode cX12_choice 97 = .ok (.goto 13, 3) := by decide +kernel
theorem dX12_choice_100 : decode cX12_choice 100 = .ok (.aload_n 0, 1) := by decide +kernel
theorem dX12_choice_101 : decode cX12_choice 101 = .ok (.getfield 107, 3) := by decide +kernel
theorem dX12_choice_104 : decode cX12_choice 104 = .ok (.iload_n 1, 1) := by decide +kernel
theorem dX12_choice_105 : decode cX12_choice 105 = .ok (.aload_n 0, 1) := by decide +kernel
theorem dX12_choice_106 : decode cX12_choice 106 = .ok (.getfield 276, 3) := by decide +kernel
theorem dX12_choice_109 : decode cX12_choice 109 = .ok (.iastore, 1) := by decide +kernel
theorem dX12_choice_110 : decode cX12_choice 110 = .ok (.aload_n 0, 1) := by decide +kernel
theorem dX12_choice_111 : decode cX12_choice 111 = .ok (.dup, 1) := by decide +kernel
theorem dX12_choice_112 : decode cX12_choice 112 = .ok (.getfield 266, 3) := by decide +kernel
theorem dX12_choice_115 : decode cX12_choice 115 = .ok (.iconst 1, 1) := by decide +kernel
theorem dX12_choice_116 : decode cX12_choice 116 = .ok (.isub, 1) := by decide +kernel
theorem dX12_choice_117 : decode cX12_choice 117 = .ok (.putfield 266, 3) := by decide +kernel
theorem dX12_choice_120 : decode cX12_choice 120 = .ok (.aload_n 0, 1) := by decide +kernel
theorem dX12_choice_121 : decode cX12_choice 121 = .ok (.getfield 230, 3) := by decide +kernel
theorem dX12_choice_124 : decode cX12_choice 124 = .ok (.ifCond .ne 7, 3) := by decide +kernel
theorem dX12_choice_127 : decode cX12_choice 127 = .ok (.iconst 1, 1) := by decide +kernel
theorem dX12_choice_128 : decode cX12_choice 128 = .ok (.goto 4, 3) := by decide +kernel
theorem dX12_choice_131 : decode cX12_choice 131 = .ok (.iconst 0, 1) := by decide +kernel
theorem dX12_choice_132 : decode cX12_choice 132 = .ok (.ireturn, 1) := by decide +kernel
theorem dX12_settle_0 : decode cX12_settle 0 = .ok (.iload_n 1, 1) := by decide +kernel
theorem dX12_settle_1 : decode cX12_settle 1 = .ok (.istore_n 3, 1) := by decide +kernel
theorem dX12_settle_2 : decode cX12_settle 2 = .ok (.iload_n 3, 1) := by decide +kernel
theorem dX12_settle_3 : decode cX12_settle 3 = .ok (.iconst (-1), 1) := by decide +kernel
theorem dX12_settle_4 : decode cX12_settle 4 = .ok (.if_icmp .eq 24, 3) := by decide +kernel
theorem dX12_settle_7 : decode cX12_settle 7 = .ok (.aload_n 0, 1) := by decide +kernel
theorem dX12_settle_8 : decode cX12_settle 8 = .ok (.getfield 107, 3) := by decide +kernel
theorem dX12_settle_11 : decode cX12_settle 11 = .ok (.iload_n 3, 1) := by decide +kernel
theorem dX12_settle_12 : decode cX12_settle 12 = .ok (.iaload, 1) := by decide +kernel
theorem dX12_settle_13 : decode cX12_settle 13 = .ok (.istore 4, 2) := by decide +kernel
theorem dX12_settle_15 : decode cX12_settle 15 = .ok (.aload_n 0, 1) := by decide +kernel
theorem dX12_settle_16 : decode cX12_settle 16 = .ok (.getfield 107, 3) := by decide +kernel
theorem dX12_settle_19 : decode cX12_settle 19 = .ok (.iload_n 3, 1) := by decide +kernel
theorem dX12_settle_20 : decode cX12_settle 20 = .ok (.iload_n 2, 1) := by decide +kernel
theorem dX12_settle_21 : decode cX12_settle 21 = .ok (.iastore, 1) := by decide +kernel
theorem dX12_settle_22 : decode cX12_settle 22 = .ok (.iload 4, 2) := by decide +kernel
theorem dX12_settle_24 : decode cX12_settle 24 = .ok (.istore_n 3, 1) := by decide +kernel
theorem dX12_settle_25 : decode cX12_settle 25 = .ok (.goto (-23), 3) := by decide +kernel
theorem dX12_settle_28 : decode cX12_settle 28 = .ok (.return_, 1) := by decide +kernel
theorem dX12_body_0 : decode cX12_body 0 = .ok (.aload_n 0, 1) := by decide +kernel
theorem dX12_body_1 : decode cX12_body 1 = .ok (.getfield 377, 3) := by decide +kernel
theorem dX12_body_4 : decode cX12_body 4 = .ok (.istore_n 2, 1) := by decide +kernel
theorem dX12_body_5 : decode cX12_body 5 = .ok (.aload_n 0, 1) := by decide +kernel
theorem dX12_body_6 : decode cX12_body 6 = .ok (.getfield 380, 3) := by decide +kernel
theorem dX12_body_9 : decode cX12_body 9 = .ok (.istore_n 3, 1) := by decide +kernel
theorem dX12_body_10 : decode cX12_body 10 = .ok (.aload_n 0, 1) := by decide +kernel
theorem dX12_body_11 : decode cX12_body 11 = .ok (.iconst (-1), 1) := by decide +kernel
theorem dX12_body_12 : decode cX12_body 12 = .ok (.putfield 377, 3) := by decide +kernel
theorem dX12_body_15 : decode cX12_body 15 = .ok (.aload_n 0, 1) := by decide +kernel
theorem dX12_body_16 : decode cX12_body 16 = .ok (.iconst (-1), 1) := by decide +kernel
theorem dX12_body_17 : decode cX12_body 17 = .ok (.putfield 380, 3) := by decide +kernel
theorem dX12_body_20 : decode cX12_body 20 = .ok (.aload_n 0, 1) := by decide +kernel
theorem dX12_body_21 : decode cX12_body 21 = .ok (.dup, 1) := by decide +kernel
theorem dX12_body_22 : decode cX12_body 22 = .ok (.getfield 389, 3) := by decide +kernel
theorem dX12_body_25 : decode cX12_body 25 = .ok (.iconst 1, 1) := by decide +kernel
theorem dX12_body_26 : decode cX12_body 26 = .ok (.iadd, 1) := by decide +kernel
theorem dX12_body_27 : decode cX12_body 27 = .ok (.putfield 389, 3) := by decide +kernel
theorem dX12_body_30 : decode cX12_body 30 = .ok (.aload_n 0, 1) := by decide +kernel
theorem dX12_body_31 : decode cX12_body 31 = .ok (.bipush 15, 2) := by decide +kernel
theorem dX12_body_33 : decode cX12_body 33 = .ok (.iconst 0, 1) := by decide +kernel
theorem dX12_body_34 : decode cX12_body 34 = .ok (.iconst 0, 1) := by decide +kernel
theorem dX12_body_35 : decode cX12_body 35 = .ok (.invokevirtual 401, 3) := by decide +kernel
theorem dX12_body_38 : decode cX12_body 38 = .ok (.pop, 1) := by decide +kernel
theorem dX12_body_39 : decode cX12_body 39 = .ok (.aload_n 0, 1) := by decide +kernel
theorem dX12_body_40 : decode cX12_body 40 = .ok (.invokevirtual 439, 3) := by decide +kernel
theorem dX12_body_43 : decode cX12_body 43 = .ok (.istore 4, 2) := by decide +kernel
theorem dX12_body_45 : decode cX12_body 45 = .ok (.aload_n 0, 1) := by decide +kernel
theorem dX12_body_46 : decode cX12_body 46 = .ok (.dup, 1) := by decide +kernel
theorem dX12_body_47 : decode cX12_body 47 = .ok (.getfield 389, 3) := by decide +kernel
theorem dX12_body_50 : decode cX12_body 50 = .ok (.iconst 1, 1) := by decide +kernel
theorem dX12_body_51 : decode cX12_body 51 = .ok (.isub, 1) := by decide +kernel
theorem dX12_body_52 : decode cX12_body 52 = .ok (.putfield 389, 3) := by decide +kernel
theorem dX12_body_55 : decode cX12_body 55 = .ok (.iload_n 1, 1) := by decide +kernel
theorem dX12_body_56 : decode cX12_body 56 = .ok (.iconst (-1), 1) := by decide +kernel
theorem dX12_body_57 : decode cX12_body 57 = .ok (.if_icmp .eq 20, 3) := by decide +kernel
theorem dX12_body_60 : decode cX12_body 60 = .ok (.aload_n 0, 1) := by decide +kernel
theorem dX12_body_61 : decode cX12_body 61 = .ok (.aload_n 0, 1) := by decide +kernel
theorem dX12_body_62 : decode cX12_body 62 = .ok (.getfield 380, 3) := by decide +kernel
theorem dX12_body_65 : decode cX12_body 65 = .ok (.iload_n 1, 1) := by decide +kernel
theorem dX12_body_66 : decode cX12_body 66 = .ok (.invokevirtual 442, 3) := by decide +kernel
theorem dX12_body_69 : decode cX12_body 69 = .ok (.aload_n 0, 1) := by decide +kernel
theorem dX12_body_70 : decode cX12_body 70 = .ok (.iload_n 3, 1) := by decide +kernel
theorem dX12_body_71 : decode cX12_body 71 = .ok (.putfield 380, 3) := by decide +kernel
theorem dX12_body_74 : decode cX12_body 74 = .ok (.goto 16, 3) := by decide +kernel
theorem dX12_body_77 : decode cX12_body 77 = .ok (.aload_n 0, 1) := by decide +kernel
theorem dX12_body_78 : decode cX12_body 78 = .ok (.aload_n 0, 1) := by decide +kernel
theorem dX12_body_79 : decode cX12_body 79 = .ok (.getfield 380, 3) := by decide +kernel
theorem dX12_body_82 : decode cX12_body 82 = .ok (.putfield 445, 3) := by decide +kernel
theorem dX12_body_85 : decode cX12_body 85 = .ok (.aload_n 0, 1) := by decide +kernel
theorem dX12_body_86 : decode cX12_body 86 = .ok (.iload_n 3, 1) := by decide +kernel
theorem dX12_body_87 : decode cX12_body 87 = .ok (.putfield 380, 3) := by decide +kernel
theorem dX12_body_90 : decode cX12_body 90 = .ok (.aload_n 0, 1) := by decide +kernel
theorem dX12_body_91 : decode cX12_body 91 = .ok (.aload_n 0, 1) := by decide +kernel
theorem dX12_body_92 : decode cX12_body 92 = .ok (.getfield 377, 3) := by decide +kernel
theorem dX12_body_95 : decode cX12_body 95 = .ok (.putfield 448, 3) := by decide +kernel
theorem dX12_body_98 : decode cX12_body 98 = .ok (.aload_n 0, 1) := by decide +kernel
theorem dX12_body_99 : decode cX12_body 99 = .ok (.iload_n 2, 1) := by decide +kernel
theorem dX12_body_100 : decode cX12_body 100 = .ok (.putfield 377, 3) := by decide +kernel
theorem dX12_body_103 : decode cX12_body 103 = .ok (.iload 4, 2) := by decide +kernel
theorem dX12_body_105 : decode cX12_body 105 = .ok (.ireturn, 1) := by decide +kernel
theorem dX12_loop_0 : decode cX12_loop 0 = .ok (.aload_n 0, 1) := by decide +kernel
theorem dX12_loop_1 : decode cX12_loop 1 = .ok (.getfield 276, 3) := by decide +kernel
theorem dX12_loop_4 : decode cX12_loop 4 = .ok (.istore_n 1, 1) := by decide +kernel
theorem dX12_loop_5 : decode cX12_loop 5 = .ok (.aload_n 0, 1) := by decide +kernel
theorem dX12_loop_6 : decode cX12_loop 6 = .ok (.invokevirtual 269, 3) := by decide +kernel
theorem dX12_loop_9 : decode cX12_loop 9 = .ok (.ifCond .eq 10, 3) := by decide +kernel
theorem dX12_loop_12 : decode cX12_loop 12 = .ok (.aload_n 0, 1) := by decide +kernel
theorem dX12_loop_13 : decode cX12_loop 13 = .ok (.invokevirtual 436, 3) := by decide +kernel
theorem dX12_loop_16 : decode cX12_loop 16 = .ok (.ifCond .ne 5, 3) := by decide +kernel
theorem dX12_loop_19 : decode cX12_loop 19 = .ok (.iconst 0, 1) := by decide +kernel
theorem dX12_loop_20 : decode cX12_loop 20 = .ok (.ireturn, 1) := by decide +kernel
theorem dX12_loop_21 : decode cX12_loop 21 = .ok (.aload_n 0, 1) := by decide +kernel
theorem dX12_loop_22 : decode cX12_loop 22 = .ok (.bipush 13, 2) := by decide +kernel
theorem dX12_loop_24 : decode cX12_loop 24 = .ok (.iconst 0, 1) := by decide +kernel
theorem dX12_loop_25 : decode cX12_loop 25 = .ok (.iconst 0, 1) := by decide +kernel
theorem dX12_loop_26 : decode cX12_loop 26 = .ok (.invokevirtual 401, 3) := by decide +kernel
theorem dX12_loop_29 : decode cX12_loop 29 = .ok (.istore_n 2, 1) := by decide +kernel
theorem dX12_loop_30 : decode cX12_loop 30 = .ok (.aload_n 0, 1) := by decide +kernel
theorem dX12_loop_31 : decode cX12_loop 31 = .ok (.iload_n 1, 1) := by decide +kernel
theorem dX12_loop_32 : decode cX12_loop 32 = .ok (.invokevirtual 451, 3) := by decide +kernel
theorem dX12_loop_35 : decode cX12_loop 35 = .ok (.ifCond .ne 5, 3) := by decide +kernel
theorem dX12_loop_38 : decode cX12_loop 38 = .ok (.iconst 0, 1) := by decide +kernel
theorem dX12_loop_39 : decode cX12_loop 39 = .ok (.ireturn, 1) := by decide +kernel
theorem dX12_loop_40 : decode cX12_loop 40 = .ok (.aload_n 0, 1) := by decide +kernel
theorem dX12_loop_41 : decode cX12_loop 41 = .ok (.getfield 448, 3) := by decide +kernel
theorem dX12_loop_44 : decode cX12_loop 44 = .ok (.istore_n 3, 1) := by decide +kernel
theorem dX12_loop_45 : decode cX12_loop 45 = .ok (.aload_n 0, 1) := by decide +kernel
theorem dX12_loop_46 : decode cX12_loop 46 = .ok (.bipush 12, 2) := by decide +kernel
theorem dX12_loop_48 : decode cX12_loop 48 = .ok (.iload_n 1, 1) := by decide +kernel
theorem dX12_loop_49 : decode cX12_loop 49 = .ok (.iconst 0, 1) := by decide +kernel
theorem dX12_loop_50 : decode cX12_loop 50 = .ok (.invokevirtual 401, 3) := by decide +kernel
theorem dX12_loop_53 : decode cX12_loop 53 = .ok (.pop, 1) := by decide +kernel
theorem dX12_loop_54 : decode cX12_loop 54 = .ok (.aload_n 0, 1) := by decide +kernel
theorem dX12_loop_55 : decode cX12_loop 55 = .ok (.getfield 107, 3) := by decide +kernel
theorem dX12_loop_58 : decode cX12_loop 58 = .ok (.iload_n 2, 1) := by decide +kernel
theorem dX12_loop_59 : decode cX12_loop 59 = .ok (.aload_n 0, 1) := by decide +kernel
theorem dX12_loop_60 : decode cX12_loop 60 = .ok (.getfield 276, 3) := by decide +kernel
theorem dX12_loop_63 : decode cX12_loop 63 = .ok (.iastore, 1) := by decide +kernel
theorem dX12_loop_64 : decode cX12_loop 64 = .ok (.aload_n 0, 1) := by decide +kernel
theorem dX12_loop_65 : decode cX12_loop 65 = .ok (.iload_n 3, 1) := by decide +kernel
theorem dX12_loop_66 : decode cX12_loop 66 = .ok (.aload_n 0, 1) := by decide +kernel
theorem dX12_loop_67 : decode cX12_loop 67 = .ok (.getfield 276, 3) := by decide +kernel
theorem dX12_loop_70 : decode cX12_loop 70 = .ok (.invokevirtual 442, 3) := by decide +kernel
theorem dX12_loop_73 : decode cX12_loop 73 = .ok (.aload_n 0, 1) := by decide +kernel
theorem dX12_loop_74 : decode cX12_loop 74 = .ok (.dup, 1) := by decide +kernel
theorem dX12_loop_75 : decode cX12_loop 75 = .ok (.getfield 266, 3) := by decide +kernel
theorem dX12_loop_78 : decode cX12_loop 78 = .ok (.iconst 1, 1) := by decide +kernel
theorem dX12_loop_79 : decode cX12_loop 79 = .ok (.isub, 1) := by decide +kernel
theorem dX12_loop_80 : decode cX12_loop 80 = .ok (.putfield 266, 3) := by decide +kernel
theorem dX12_loop_83 : decode cX12_loop 83 = .ok (.iconst 1, 1) := by decide +kernel
theorem dX12_loop_84 : decode cX12_loop 84 = .ok (.ireturn, 1) := by decide +kernel
theorem dX12_turnLoop_0 : decode cX12_turnLoop 0 = .ok (.aload_n 0, 1) := by decide +kernel
theorem dX12_turnLoop_1 : decode cX12_turnLoop 1 = .ok (.getfield 276, 3) := by decide +kernel
theorem dX12_turnLoop_4 : decode cX12_turnLoop 4 = .ok (.istore_n 1, 1) := by decide +kernel
theorem dX12_turnLoop_5 : decode cX12_turnLoop 5 = .ok (.aload_n 0, 1) := by decide +kernel
theorem dX12_turnLoop_6 : decode cX12_turnLoop 6 = .ok (.invokevirtual 269, 3) := by decide +kernel
theorem dX12_turnLoop_9 : decode cX12_turnLoop 9 = .ok (.ifCond .eq 11, 3) := by decide +kernel
theorem dX12_turnLoop_12 : decode cX12_turnLoop 12 = .ok (.aload_n 0, 1) := by decide +kernel
theorem dX12_turnLoop_13 : decode cX12_turnLoop 13 = .ok (.iconst (-1), 1) := by decide +kernel
theorem dX12_turnLoop_14 : decode cX12_turnLoop 14 = .ok (.invokevirtual 451, 3) := by decide +kernel
theorem dX12_turnLoop_17 : decode cX12_turnLoop 17 = .ok (.ifCond .ne 5, 3) := by decide +kernel
theorem dX12_turnLoop_20 : decode cX12_turnLoop 20 = .ok (.iconst 0, 1) := by decide +kernel
theorem dX12_turnLoop_21 : decode cX12_turnLoop 21 = .ok (.ireturn, 1) := by decide +kernel
theorem dX12_turnLoop_22 : decode cX12_turnLoop 22 = .ok (.aload_n 0, 1) := by decide +kernel
theorem dX12_turnLoop_23 : decode cX12_turnLoop 23 = .ok (.getfield 448, 3) := by decide +kernel
theorem dX12_turnLoop_26 : decode cX12_turnLoop 26 = .ok (.istore_n 2, 1) := by decide +kernel
theorem dX12_turnLoop_27 : decode cX12_turnLoop 27 = .ok (.aload_n 0, 1) := by decide +kernel
theorem dX12_turnLoop_28 : decode cX12_turnLoop 28 = .ok (.getfield 445, 3) := by decide +kernel
theorem dX12_turnLoop_31 : decode cX12_turnLoop 31 = .ok (.istore_n 3, 1) := by decide +kernel
theorem dX12_turnLoop_32 : decode cX12_turnLoop 32 = .ok (.aload_n 0, 1) := by decide +kernel
theorem dX12_turnLoop_33 : decode cX12_turnLoop 33 = .ok (.iload_n 3, 1) := by decide +kernel
theorem dX12_turnLoop_34 : decode cX12_turnLoop 34 = .ok (.aload_n 0, 1) := by decide +kernel
theorem dX12_turnLoop_35 : decode cX12_turnLoop 35 = .ok (.getfield 276, 3) := by decide +kernel
theorem dX12_turnLoop_38 : decode cX12_turnLoop 38 = .ok (.invokevirtual 442, 3) := by decide +kernel
theorem dX12_turnLoop_41 : decode cX12_turnLoop 41 = .ok (.aload_n 0, 1) := by decide +kernel
theorem dX12_turnLoop_42 : decode cX12_turnLoop 42 = .ok (.bipush 6, 2) := by decide +kernel
theorem dX12_turnLoop_44 : decode cX12_turnLoop 44 = .ok (.iconst 1, 1) := by decide +kernel
theorem dX12_turnLoop_45 : decode cX12_turnLoop 45 = .ok (.invokevirtual 310, 3) := by decide +kernel
theorem dX12_turnLoop_48 : decode cX12_turnLoop 48 = .ok (.ifCond .eq 10, 3) := by decide +kernel
theorem dX12_turnLoop_51 : decode cX12_turnLoop 51 = .ok (.aload_n 0, 1) := by decide +kernel
theorem dX12_turnLoop_52 : decode cX12_turnLoop 52 = .ok (.invokevirtual 436, 3) := by decide +kernel
theorem dX12_turnLoop_55 : decode cX12_turnLoop 55 = .ok (.ifCond .ne 5, 3) := by decide +kernel
theorem dX12_turnLoop_58 : decode cX12_turnLoop 58 = .ok (.iconst 0, 1) := by decide +kernel
theorem dX12_turnLoop_59 : decode cX12_turnLoop 59 = .ok (.ireturn, 1) := by decide +kernel
theorem dX12_turnLoop_60 : decode cX12_turnLoop 60 = .ok (.aload_n 0, 1) := by decide +kernel
theorem dX12_turnLoop_61 : decode cX12_turnLoop 61 = .ok (.bipush 14, 2) := by decide +kernel
theorem dX12_turnLoop_63 : decode cX12_turnLoop 63 = .ok (.iload_n 1, 1) := by decide +kernel
theorem dX12_turnLoop_64 : decode cX12_turnLoop 64 = .ok (.iconst 0, 1) := by decide +kernel
theorem dX12_turnLoop_65 : decode cX12_turnLoop 65 = .ok (.invokevirtual 401, 3) := by decide +kernel
theorem dX12_turnLoop_68 : decode cX12_turnLoop 68 = .ok (.pop, 1) := by decide +kernel
theorem dX12_turnLoop_69 : decode cX12_turnLoop 69 = .ok (.aload_n 0, 1) := by decide +kernel
theorem dX12_turnLoop_70 : decode cX12_turnLoop 70 = .ok (.iload_n 2, 1) := by decide +kernel
theorem dX12_turnLoop_71 : decode cX12_turnLoop 71 = .ok (.aload_n 0, 1) := by decide +kernel
theorem dX12_turnLoop_72 : decode cX12_turnLoop 72 = .ok (.getfield 276, 3) := by decide +kernel
theorem dX12_turnLoop_75 : decode cX12_turnLoop 75 = .ok (.invokevirtual 442, 3) := by decide +kernel
theorem dX12_turnLoop_78 : decode cX12_turnLoop 78 = .ok (.aload_n 0, 1) := by decide +kernel
theorem dX12_turnLoop_79 : decode cX12_turnLoop 79 = .ok (.dup, 1) := by decide +kernel
theorem dX12_turnLoop_80 : decode cX12_turnLoop 80 = .ok (.getfield 266, 3) := by decide +kernel
theorem dX12_turnLoop_83 : decode cX12_turnLoop 83 = .ok (.iconst 1, 1) := by decide +kernel
theorem dX12_turnLoop_84 : decode cX12_turnLoop 84 = .ok (.isub, 1) := by decide +kernel
theorem dX12_turnLoop_85 : decode cX12_turnLoop 85 = .ok (.putfield 266, 3) := by decide +kernel
theorem dX12_turnLoop_88 : decode cX12_turnLoop 88 = .ok (.aload_n 0, 1) := by decide +kernel
theorem dX12_turnLoop_89 : decode cX12_turnLoop 89 = .ok (.bipush 29, 2) := by decide +kernel
theorem dX12_turnLoop_91 : decode cX12_turnLoop 91 = .ok (.invokevirtual 273, 3) := by decide +kernel
theorem dX12_turnLoop_94 : decode cX12_turnLoop 94 = .ok (.ireturn, 1) := by decide +kernel
theorem dX12_counted_0 : decode cX12_counted 0 = .ok (.aload_n 0, 1) := by decide +kernel
theorem dX12_counted_1 : decode cX12_counted 1 = .ok (.invokevirtual 269, 3) := by decide +kernel
theorem dX12_counted_4 : decode cX12_counted 4 = .ok (.ifCond .eq 12, 3) := by decide +kernel
theorem dX12_counted_7 : decode cX12_counted 7 = .ok (.aload_n 0, 1) := by decide +kernel
theorem dX12_counted_8 : decode cX12_counted 8 = .ok (.bipush 22, 2) := by decide +kernel
theorem dX12_counted_10 : decode cX12_counted 10 = .ok (.invokevirtual 356, 3) := by decide +kernel
theorem dX12_counted_13 : decode cX12_counted 13 = .ok (.ifCond .ne 5, 3) := by decide +kernel
theorem dX12_counted_16 : decode cX12_counted 16 = .ok (.iconst 0, 1) := by decide +kernel
theorem dX12_counted_17 : decode cX12_counted 17 = .ok (.ireturn, 1) := by decide +kernel
theorem dX12_counted_18 : decode cX12_counted 18 = .ok (.aload_n 0, 1) := by decide +kernel
theorem dX12_counted_19 : decode cX12_counted 19 = .ok (.getfield 282, 3) := by decide +kernel
theorem dX12_counted_22 : decode cX12_counted 22 = .ok (.istore_n 1, 1) := by decide +kernel
theorem dX12_counted_23 : decode cX12_counted 23 = .ok (.aload_n 0, 1) := by decide +kernel
theorem dX12_counted_24 : decode cX12_counted 24 = .ok (.invokevirtual 392, 3) := by decide +kernel
theorem dX12_counted_27 : decode cX12_counted 27 = .ok (.aload_n 0, 1) := by decide +kernel
theorem dX12_counted_28 : decode cX12_counted 28 = .ok (.bipush 29, 2) := by decide +kernel
theorem dX12_counted_30 : decode cX12_counted 30 = .ok (.invokevirtual 257, 3) := by decide +kernel
theorem dX12_counted_33 : decode cX12_counted 33 = .ok (.ifCond .ne 30, 3) := by decide +kernel
theorem dX12_counted_36 : decode cX12_counted 36 = .ok (.aload_n 0, 1) := by decide +kernel
theorem dX12_counted_37 : decode cX12_counted 37 = .ok (.iconst 0, 1) := by decide +kernel
theorem dX12_counted_38 : decode cX12_counted 38 = .ok (.invokevirtual 263, 3) := by decide +kernel
theorem dX12_counted_41 : decode cX12_counted 41 = .ok (.ifCond .eq 11, 3) := by decide +kernel
theorem dX12_counted_44 : decode cX12_counted 44 = .ok (.aload_n 0, 1) := by decide +kernel
theorem dX12_counted_45 : decode cX12_counted 45 = .ok (.iconst 0, 1) := by decide +kernel
theorem dX12_counted_46 : decode cX12_counted 46 = .ok (.invokevirtual 414, 3) := by decide +kernel
theorem dX12_counted_49 : decode cX12_counted 49 = .ok (.goto 7, 3) := by decide +kernel
theorem dX12_counted_52 : decode cX12_counted 52 = .ok (.aload_n 0, 1) := by decide +kernel
theorem dX12_counted_53 : decode cX12_counted 53 = .ok (.invokevirtual 411, 3) := by decide +kernel
theorem dX12_counted_56 : decode cX12_counted 56 = .ok (.istore_n 2, 1) := by decide +kernel
theorem dX12_counted_57 : decode cX12_counted 57 = .ok (.iload_n 2, 1) := by decide +kernel
theorem dX12_counted_58 : decode cX12_counted 58 = .ok (.ifCond .ne 5, 3) := by decide +kernel
theorem dX12_counted_61 : decode cX12_counted 61 = .ok (.iconst 0, 1) := by decide +kernel
theorem dX12_counted_62 : decode cX12_counted 62 = .ok (.ireturn, 1) := by decide +kernel
theorem dX12_counted_63 : decode cX12_counted 63 = .ok (.aload_n 0, 1) := by decide +kernel
theorem dX12_counted_64 : decode cX12_counted 64 = .ok (.bipush 29, 2) := by decide +kernel
theorem dX12_counted_66 : decode cX12_counted 66 = .ok (.invokevirtual 273, 3) := by decide +kernel
theorem dX12_counted_69 : decode cX12_counted 69 = .ok (.ifCond .ne 5, 3) := by decide +kernel
theorem dX12_counted_72 : decode cX12_counted 72 = .ok (.iconst 0, 1) := by decide +kernel
theorem dX12_counted_73 : decode cX12_counted 73 = .ok (.ireturn, 1) := by decide +kernel
theorem dX12_counted_74 : decode cX12_counted 74 = .ok (.aload_n 0, 1) := by decide +kernel
theorem dX12_counted_75 : decode cX12_counted 75 = .ok (.getfield 276, 3) := by decide +kernel
theorem dX12_counted_78 : decode cX12_counted 78 = .ok (.istore_n 2, 1) := by decide +kernel
theorem dX12_counted_79 : decode cX12_counted 79 = .ok (.iconst (-1), 1) := by decide +kernel
theorem dX12_counted_80 : decode cX12_counted 80 = .ok (.istore_n 3, 1) := by decide +kernel
theorem dX12_counted_81 : decode cX12_counted 81 = .ok (.aload_n 0, 1) := by decide +kernel
theorem dX12_counted_82 : decode cX12_counted 82 = .ok (.bipush 29, 2) := by decide +kernel
theorem dX12_counted_84 : decode cX12_counted 84 = .ok (.invokevirtual 257, 3) := by decide +kernel
theorem dX12_counted_87 : decode cX12_counted 87 = .ok (.ifCond .ne 21, 3) := by decide +kernel
theorem dX12_counted_90 : decode cX12_counted 90 = .ok (.aload_n 0, 1) := by decide +kernel
theorem dX12_counted_91 : decode cX12_counted 91 = .ok (.invokevirtual 368, 3) := by decide +kernel
theorem dX12_counted_94 : decode cX12_counted 94 = .ok (.ifCond .ne 5, 3) := by decide +kernel
theorem dX12_counted_97 : decode cX12_counted 97 = .ok (.iconst 0, 1) := by decide +kernel
theorem dX12_counted_98 : decode cX12_counted 98 = .ok (.ireturn, 1) := by decide +kernel
theorem dX12_counted_99 : decode cX12_counted 99 = .ok (.aload_n 0, 1) := by decide +kernel
theorem dX12_counted_100 : decode cX12_counted 100 = .ok (.bipush 13, 2) := by decide +kernel
theorem dX12_counted_102 : decode cX12_counted 102 = .ok (.iconst 0, 1) := by decide +kernel
theorem dX12_counted_103 : decode cX12_counted 103 = .ok (.iconst 0, 1) := by decide +kernel
theorem dX12_counted_104 : decode cX12_counted 104 = .ok (.invokevirtual 401, 3) := by decide +kernel
theorem dX12_counted_107 : decode cX12_counted 107 = .ok (.istore_n 3, 1) := by decide +kernel
theorem dX12_counted_108 : decode cX12_counted 108 = .ok (.aload_n 0, 1) := by decide +kernel
theorem dX12_counted_109 : decode cX12_counted 109 = .ok (.bipush 29, 2) := by decide +kernel
theorem dX12_counted_111 : decode cX12_counted 111 = .ok (.invokevirtual 273, 3) := by decide +kernel
theorem dX12_counted_114 : decode cX12_counted 114 = .ok (.ifCond .ne 5, 3) := by decide +kernel
theorem dX12_counted_117 : decode cX12_counted 117 = .ok (.iconst 0, 1) := by decide +kernel
theorem dX12_counted_118 : decode cX12_counted 118 = .ok (.ireturn, 1) := by decide +kernel
theorem dX12_counted_119 : decode cX12_counted 119 = .ok (.aload_n 0, 1) := by decide +kernel
theorem dX12_counted_120 : decode cX12_counted 120 = .ok (.bipush 12, 2) := by decide +kernel
theorem dX12_counted_122 : decode cX12_counted 122 = .ok (.iconst 0, 1) := by decide +kernel
theorem dX12_counted_123 : decode cX12_counted 123 = .ok (.iconst 0, 1) := by decide +kernel
theorem dX12_counted_124 : decode cX12_counted 124 = .ok (.invokevirtual 401, 3) := by decide +kernel
theorem dX12_counted_127 : decode cX12_counted 127 = .ok (.istore 4, 2) := by decide +kernel
theorem dX12_counted_129 : decode cX12_counted 129 = .ok (.aload_n 0, 1) := by decide +kernel
theorem dX12_counted_130 : decode cX12_counted 130 = .ok (.getfield 276, 3) := by decide +kernel
theorem dX12_counted_133 : decode cX12_counted 133 = .ok (.istore 5, 2) := by decide +kernel
theorem dX12_counted_135 : decode cX12_counted 135 = .ok (.aload_n 0, 1) := by decide +kernel
theorem dX12_counted_136 : decode cX12_counted 136 = .ok (.bipush 23, 2) := by decide +kernel
theorem dX12_counted_138 : decode cX12_counted 138 = .ok (.invokevirtual 257, 3) := by decide +kernel
theorem dX12_counted_141 : decode cX12_counted 141 = .ok (.ifCond .ne 12, 3) := by decide +kernel
theorem dX12_counted_144 : decode cX12_counted 144 = .ok (.aload_n 0, 1) := by decide +kernel
theorem dX12_counted_145 : decode cX12_counted 145 = .ok (.invokevirtual 411, 3) := by decide +kernel
theorem dX12_counted_148 : decode cX12_counted 148 = .ok (.ifCond .ne 5, 3) := by decide +kernel
theorem dX12_counted_151 : decode cX12_counted 151 = .ok (.iconst 0, 1) := by decide +kernel
theorem dX12_counted_152 : decode cX12_counted 152 = .ok (.ireturn, 1) := by decide +kernel
theorem dX12_counted_153 : decode cX12_counted 153 = .ok (.aload_n 0, 1) := by decide +kernel
theorem dX12_counted_154 : decode cX12_counted 154 = .ok (.bipush 23, 2) := by decide +kernel
theorem dX12_counted_156 : decode cX12_counted 156 = .ok (.invokevirtual 362, 3) := by decide +kernel
theorem dX12_counted_159 : decode cX12_counted 159 = .ok (.ifCond .ne 5, 3) := by decide +kernel
theorem dX12_counted_162 : decode cX12_counted 162 = .ok (.iconst 0, 1) := by decide +kernel
theorem dX12_counted_163 : decode cX12_counted 163 = .ok (.ireturn, 1) := by decide +kernel
theorem dX12_counted_164 : decode cX12_counted 164 = .ok (.aload_n 0, 1) := by decide +kernel
theorem dX12_counted_165 : decode cX12_counted 165 = .ok (.bipush 12, 2) := by decide +kernel
theorem dX12_counted_167 : decode cX12_counted 167 = .ok (.iload_n 2, 1) := by decide +kernel
theorem dX12_counted_168 : decode cX12_counted 168 = .ok (.iconst 0, 1) := by decide +kernel
theorem dX12_counted_169 : decode cX12_counted 169 = .ok (.invokevirtual 401, 3) := by decide +kernel
theorem dX12_counted_172 : decode cX12_counted 172 = .ok (.pop, 1) := by decide +kernel
theorem dX12_counted_173 : decode cX12_counted 173 = .ok (.aload_n 0, 1) := by decide +kernel
theorem dX12_counted_174 : decode cX12_counted 174 = .ok (.getfield 107, 3) := by decide +kernel
theorem dX12_counted_177 : decode cX12_counted 177 = .ok (.iload 4, 2) := by decide +kernel
theorem dX12_counted_179 : decode cX12_counted 179 = .ok (.aload_n 0, 1) := by decide +kernel
theorem dX12_counted_180 : decode cX12_counted 180 = .ok (.getfield 276, 3) := by decide +kernel
theorem dX12_counted_183 : decode cX12_counted 183 = .ok (.iastore, 1) := by decide +kernel
theorem dX12_counted_184 : decode cX12_counted 184 = .ok (.aload_n 0, 1) := by decide +kernel
theorem dX12_counted_185 : decode cX12_counted 185 = .ok (.iload 5, 2) := by decide +kernel
theorem dX12_counted_187 : decode cX12_counted 187 = .ok (.invokevirtual 451, 3) := by decide +kernel
theorem dX12_counted_190 : decode cX12_counted 190 = .ok (.ifCond .ne 5, 3) := by decide +kernel
theorem dX12_counted_193 : decode cX12_counted 193 = .ok (.iconst 0, 1) := by decide +kernel
theorem dX12_counted_194 : decode cX12_counted 194 = .ok (.ireturn, 1) := by decide +kernel
theorem dX12_counted_195 : decode cX12_counted 195 = .ok (.aload_n 0, 1) := by decide +kernel
theorem dX12_counted_196 : decode cX12_counted 196 = .ok (.getfield 448, 3) := by decide +kernel
theorem dX12_counted_199 : decode cX12_counted 199 = .ok (.istore 6, 2) := by decide +kernel
theorem dX12_counted_201 : decode cX12_counted 201 = .ok (.aload_n 0, 1) := by decide +kernel
theorem dX12_counted_202 : decode cX12_counted 202 = .ok (.bipush 12, 2) := by decide +kernel
theorem dX12_counted_204 : decode cX12_counted 204 = .ok (.iload 5, 2) := by decide +kernel
theorem dX12_counted_206 : decode cX12_counted 206 = .ok (.iconst 0, 1) := by decide +kernel
theorem dX12_counted_207 : decode cX12_counted 207 = .ok (.invokevirtual 401, 3) := by decide +kernel
theorem dX12_counted_210 : decode cX12_counted 210 = .ok (.pop, 1) := by decide +kernel
theorem dX12_counted_211 : decode cX12_counted 211 = .ok (.iload_n 3, 1) := by decide +kernel
theorem dX12_counted_212 : decode cX12_counted 212 = .ok (.iconst (-1), 1) := by decide +kernel
theorem dX12_counted_213 : decode cX12_counted 213 = .ok (.if_icmp .eq 13, 3) := by decide +kernel
theorem dX12_counted_216 : decode cX12_counted 216 = .ok (.aload_n 0, 1) := by decide +kernel
theorem dX12_counted_217 : decode cX12_counted 217 = .ok (.getfield 107, 3) := by decide +kernel
theorem dX12_counted_220 : decode cX12_counted 220 = .ok (.iload_n 3, 1) := by decide +kernel
theorem dX12_counted_221 : decode cX12_counted 221 = .ok (.aload_n 0, 1) := by decide +kernel
theorem dX12_counted_222 : decode cX12_counted 222 = .ok (.getfield 276, 3) := by decide +kernel
theorem dX12_counted_225 : decode cX12_counted 225 = .ok (.iastore, 1) := by decide +kernel
theorem dX12_counted_226 : decode cX12_counted 226 = .ok (.aload_n 0, 1) := by decide +kernel
theorem dX12_counted_227 : decode cX12_counted 227 = .ok (.iload 6, 2) := by decide +kernel
theorem dX12_counted_229 : decode cX12_counted 229 = .ok (.aload_n 0, 1) := by decide +kernel
theorem dX12_counted_230 : decode cX12_counted 230 = .ok (.getfield 276, 3) := by decide +kernel
theorem dX12_counted_233 : decode cX12_counted 233 = .ok (.invokevirtual 442, 3) := by decide +kernel
theorem dX12_counted_236 : decode cX12_counted 236 = .ok (.aload_n 0, 1) := by decide +kernel
theorem dX12_counted_237 : decode cX12_counted 237 = .ok (.iload_n 1, 1) := by decide +kernel
theorem dX12_counted_238 : decode cX12_counted 238 = .ok (.invokevirtual 405, 3) := by decide +kernel
theorem dX12_counted_241 : decode cX12_counted 241 = .ok (.aload_n 0, 1) := by decide +kernel
theorem dX12_counted_242 : decode cX12_counted 242 = .ok (.dup, 1) := by decide +kernel
theorem dX12_counted_243 : decode cX12_counted 243 = .ok (.getfield 266, 3) := by decide +kernel
theorem dX12_counted_246 : decode cX12_counted 246 = .ok (.iconst 1, 1) := by decide +kernel
theorem dX12_counted_247 : decode cX12_counted 247 = .ok (.isub, 1) := by decide +kernel
theorem dX12_counted_248 : decode cX12_counted 248 = .ok (.putfield 266, 3) := by decide +kernel
theorem dX12_counted_251 : decode cX12_counted 251 = .ok (.iconst 1, 1) := by decide +kernel
theorem dX12_counted_252 : decode cX12_counted 252 = .ok (.ireturn, 1) := by decide +kernel
theorem dX12_leaves_0 : decode cX12_leaves 0 = .ok (.aload_n 0, 1) := by decide +kernel
theorem dX12_leaves_1 : decode cX12_leaves 1 = .ok (.bipush 9, 2) := by decide +kernel
theorem dX12_leaves_3 : decode cX12_leaves 3 = .ok (.invokevirtual 263, 3) := by decide +kernel
theorem dX12_leaves_6 : decode cX12_leaves 6 = .ok (.istore_n 1, 1) := by decide +kernel
theorem dX12_leaves_7 : decode cX12_leaves 7 = .ok (.aload_n 0, 1) := by decide +kernel
theorem dX12_leaves_8 : decode cX12_leaves 8 = .ok (.getfield 389, 3) := by decide +kernel
theorem dX12_leaves_11 : decode cX12_leaves 11 = .ok (.ifCond .ne 18, 3) := by decide +kernel
theorem dX12_leaves_14 : decode cX12_leaves 14 = .ok (.aload_n 0, 1) := by decide +kernel
theorem dX12_leaves_15 : decode cX12_leaves 15 = .ok (.bipush 9, 2) := by decide +kernel
theorem dX12_leaves_17 : decode cX12_leaves 17 = .ok (.aload_n 0, 1) := by decide +kernel
theorem dX12_leaves_18 : decode cX12_leaves 18 = .ok (.getfield 22, 3) := by decide +kernel
theorem dX12_leaves_21 : decode cX12_leaves 21 = .ok (.aload_n 0, 1) := by decide +kernel
theorem dX12_leaves_22 : decode cX12_leaves 22 = .ok (.getfield 233, 3) := by decide +kernel
theorem dX12_leaves_25 : decode cX12_leaves 25 = .ok (.iaload, 1) := by decide +kernel
theorem dX12_leaves_26 : decode cX12_leaves 26 = .ok (.invokevirtual 352, 3) := by decide +kernel
theorem dX12_leaves_29 : decode cX12_leaves 29 = .ok (.aload_n 0, 1) := by decide +kernel
theorem dX12_leaves_30 : decode cX12_leaves 30 = .ok (.dup, 1) := by decide +kernel
theorem dX12_leaves_31 : decode cX12_leaves 31 = .ok (.getfield 233, 3) := by decide +kernel
theorem dX12_leaves_34 : decode cX12_leaves 34 = .ok (.iconst 1, 1) := by decide +kernel
theorem dX12_leaves_35 : decode cX12_leaves 35 = .ok (.iadd, 1) := by decide +kernel
theorem dX12_leaves_36 : decode cX12_leaves 36 = .ok (.putfield 233, 3) := by decide +kernel
theorem dX12_leaves_39 : decode cX12_leaves 39 = .ok (.aload_n 0, 1) := by decide +kernel
theorem dX12_leaves_40 : decode cX12_leaves 40 = .ok (.bipush 12, 2) := by decide +kernel
theorem dX12_leaves_42 : decode cX12_leaves 42 = .ok (.iconst 0, 1) := by decide +kernel
theorem dX12_leaves_43 : decode cX12_leaves 43 = .ok (.iconst 0, 1) := by decide +kernel
theorem dX12_leaves_44 : decode cX12_leaves 44 = .ok (.invokevirtual 401, 3) := by decide +kernel
theorem dX12_leaves_47 : decode cX12_leaves 47 = .ok (.istore_n 2, 1) := by decide +kernel
theorem dX12_leaves_48 : decode cX12_leaves 48 = .ok (.aload_n 0, 1) := by decide +kernel
theorem dX12_leaves_49 : decode cX12_leaves 49 = .ok (.getfield 389, 3) := by decide +kernel
theorem dX12_leaves_52 : decode cX12_leaves 52 = .ok (.ifCond .le 41, 3) := by decide +kernel
theorem dX12_leaves_55 : decode cX12_leaves 55 = .ok (.aload_n 0, 1) := by decide +kernel
theorem dX12_leaves_56 : decode cX12_leaves 56 = .ok (.getfield 107, 3) := by decide +kernel
theorem dX12_leaves_59 : decode cX12_leaves 59 = .ok (.iload_n 2, 1) := by decide +kernel
theorem dX12_leaves_60 : decode cX12_leaves 60 = .ok (.iload_n 1, 1) := by decide +kernel
theorem dX12_leaves_61 : decode cX12_leaves 61 = .ok (.ifCond .eq 10, 3) := by decide +kernel
theorem dX12_leaves_64 : decode cX12_leaves 64 = .ok (.aload_n 0, 1) := by decide +kernel
theorem dX12_leaves_65 : decode cX12_leaves 65 = .ok (.getfield 377, 3) := by decide +kernel
theorem dX12_leaves_68 : decode cX12_leaves 68 = .ok (.goto 7, 3) := by decide +kernel
theorem dX12_leaves_71 : decode cX12_leaves 71 = .ok (.aload_n 0, 1) := by decide +kernel
theorem dX12_leaves_72 : decode cX12_leaves 72 = .ok (.getfield 380, 3) := by decide +kernel
theorem dX12_leaves_75 : decode cX12_leaves 75 = .ok (.iastore, 1) := by decide +kernel
theorem dX12_leaves_76 : decode cX12_leaves 76 = .ok (.iload_n 1, 1) := by decide +kernel
theorem dX12_leaves_77 : decode cX12_leaves 77 = .ok (.ifCond .eq 11, 3) := by decide +kernel
theorem dX12_leaves_80 : decode cX12_leaves 80 = .ok (.aload_n 0, 1) := by decide +kernel
theorem dX12_leaves_81 : decode cX12_leaves 81 = .ok (.iload_n 2, 1) := by decide +kernel
theorem dX12_leaves_82 : decode cX12_leaves 82 = .ok (.putfield 377, 3) := by decide +kernel
theorem dX12_leaves_85 : decode cX12_leaves 85 = .ok (.goto 8, 3) := by decide +kernel
theorem dX12_leaves_88 : decode cX12_leaves 88 = .ok (.aload_n 0, 1) := by decide +kernel
theorem dX12_leaves_89 : decode cX12_leaves 89 = .ok (.iload_n 2, 1) := by decide +kernel
theorem dX12_leaves_90 : decode cX12_leaves 90 = .ok (.putfield 380, 3) := by decide +kernel
theorem dX12_leaves_93 : decode cX12_leaves 93 = .ok (.aload_n 0, 1) := by decide +kernel
theorem dX12_leaves_94 : decode cX12_leaves 94 = .ok (.bipush 29, 2) := by decide +kernel
theorem dX12_leaves_96 : decode cX12_leaves 96 = .ok (.invokevirtual 273, 3) := by decide +kernel
theorem dX12_leaves_99 : decode cX12_leaves 99 = .ok (.ireturn, 1) := by decide +kernel
theorem dX12_returns_0 : decode cX12_returns 0 = .ok (.aload_n 0, 1) := by decide +kernel
theorem dX12_returns_1 : decode cX12_returns 1 = .ok (.dup, 1) := by decide +kernel
theorem dX12_returns_2 : decode cX12_returns 2 = .ok (.getfield 233, 3) := by decide +kernel
theorem dX12_returns_5 : decode cX12_returns 5 = .ok (.iconst 1, 1) := by decide +kernel
theorem dX12_returns_6 : decode cX12_returns 6 = .ok (.iadd, 1) := by decide +kernel
theorem dX12_returns_7 : decode cX12_returns 7 = .ok (.putfield 233, 3) := by decide +kernel
theorem dX12_returns_10 : decode cX12_returns 10 = .ok (.aload_n 0, 1) := by decide +kernel
theorem dX12_returns_11 : decode cX12_returns 11 = .ok (.bipush 29, 2) := by decide +kernel
theorem dX12_returns_13 : decode cX12_returns 13 = .ok (.invokevirtual 257, 3) := by decide +kernel
theorem dX12_returns_16 : decode cX12_returns 16 = .ok (.ifCond .eq 41, 3) := by decide +kernel
theorem dX12_returns_19 : decode cX12_returns 19 = .ok (.aload_n 0, 1) := by decide +kernel
theorem dX12_returns_20 : decode cX12_returns 20 = .ok (.getfield 86, 3) := by decide +kernel
theorem dX12_returns_23 : decode cX12_returns 23 = .ok (.aload_n 0, 1) := by decide +kernel
theorem dX12_returns_24 : decode cX12_returns 24 = .ok (.getfield 294, 3) := by decide +kernel
theorem dX12_returns_27 : decode cX12_returns 27 = .ok (.baload, 1) := by decide +kernel
theorem dX12_returns_28 : decode cX12_returns 28 = .ok (.ifCond .ne 18, 3) := by decide +kernel
theorem dX12_returns_31 : decode cX12_returns 31 = .ok (.aload_n 0, 1) := by decide +kernel
theorem dX12_returns_32 : decode cX12_returns 32 = .ok (.bipush 8, 2) := by decide +kernel
theorem dX12_returns_34 : decode cX12_returns 34 = .ok (.aload_n 0, 1) := by decide +kernel
theorem dX12_returns_35 : decode cX12_returns 35 = .ok (.getfield 22, 3) := by decide +kernel
theorem dX12_returns_38 : decode cX12_returns 38 = .ok (.aload_n 0, 1) := by decide +kernel
theorem dX12_returns_39 : decode cX12_returns 39 = .ok (.getfield 233, 3) := by decide +kernel
theorem dX12_returns_42 : decode cX12_returns 42 = .ok (.iaload, 1) := by decide +kernel
theorem dX12_returns_43 : decode cX12_returns 43 = .ok (.invokevirtual 352, 3) := by decide +kernel
theorem dX12_returns_46 : decode cX12_returns 46 = .ok (.aload_n 0, 1) := by decide +kernel
theorem dX12_returns_47 : decode cX12_returns 47 = .ok (.iconst 0, 1) := by decide +kernel
theorem dX12_returns_48 : decode cX12_returns 48 = .ok (.iconst 0, 1) := by decide +kernel
theorem dX12_returns_49 : decode cX12_returns 49 = .ok (.iconst 0, 1) := by decide +kernel
theorem dX12_returns_50 : decode cX12_returns 50 = .ok (.invokevirtual 401, 3) := by decide +kernel
theorem dX12_returns_53 : decode cX12_returns 53 = .ok (.pop, 1) := by decide +kernel
theorem dX12_returns_54 : decode cX12_returns 54 = .ok (.goto 44, 3) := by decide +kernel
theorem dX12_returns_57 : decode cX12_returns 57 = .ok (.aload_n 0, 1) := by decide +kernel
theorem dX12_returns_58 : decode cX12_returns 58 = .ok (.getfield 86, 3) := by decide +kernel
theorem dX12_returns_61 : decode cX12_returns 61 = .ok (.aload_n 0, 1) := by decide +kernel
theorem dX12_returns_62 : decode cX12_returns 62 = .ok (.getfield 294, 3) := by decide +kernel
theorem dX12_returns_65 : decode cX12_returns 65 = .ok (.baload, 1) := by decide +kernel
theorem dX12_returns_66 : decode cX12_returns 66 = .ok (.ifCond .eq 23, 3) := by decide +kernel
theorem dX12_returns_69 : decode cX12_returns 69 = .ok (.aload_n 0, 1) := by decide +kernel
theorem dX12_returns_70 : decode cX12_returns 70 = .ok (.bipush 8, 2) := by decide +kernel
theorem dX12_returns_72 : decode cX12_returns 72 = .ok (.aload_n 0, 1) := by decide +kernel
theorem dX12_returns_73 : decode cX12_returns 73 = .ok (.getfield 22, 3) := by decide +kernel
theorem dX12_returns_76 : decode cX12_returns 76 = .ok (.aload_n 0, 1) := by decide +kernel
theorem dX12_returns_77 : decode cX12_returns 77 = .ok (.getfield 233, 3) := by decide +kernel
theorem dX12_returns_80 : decode cX12_returns 80 = .ok (.iaload, 1) := by decide +kernel
theorem dX12_returns_81 : decode cX12_returns 81 = .ok (.bipush 7, 2) := by decide +kernel
theorem dX12_returns_83 : decode cX12_returns 83 = .ok (.invokestatic 239, 3) := by decide +kernel
theorem dX12_returns_86 : decode cX12_returns 86 = .ok (.invokevirtual 242, 3) := by decide +kernel
theorem dX12_returns_89 : decode cX12_returns 89 = .ok (.aload_n 0, 1) := by decide +kernel
theorem dX12_returns_90 : decode cX12_returns 90 = .ok (.invokevirtual 368, 3) := by decide +kernel
theorem dX12_returns_93 : decode cX12_returns 93 = .ok (.ifCond .ne 5, 3) := by decide +kernel
theorem dX12_returns_96 : decode cX12_returns 96 = .ok (.iconst 0, 1) := by decide +kernel
theorem dX12_returns_97 : decode cX12_returns 97 = .ok (.ireturn, 1) := by decide +kernel
theorem dX12_returns_98 : decode cX12_returns 98 = .ok (.aload_n 0, 1) := by decide +kernel
theorem dX12_returns_99 : decode cX12_returns 99 = .ok (.bipush 17, 2) := by decide +kernel
theorem dX12_returns_101 : decode cX12_returns 101 = .ok (.iconst 0, 1) := by decide +kernel
theorem dX12_returns_102 : decode cX12_returns 102 = .ok (.iconst 0, 1) := by decide +kernel
theorem dX12_returns_103 : decode cX12_returns 103 = .ok (.invokevirtual 401, 3) := by decide +kernel
theorem dX12_returns_106 : decode cX12_returns 106 = .ok (.pop, 1) := by decide +kernel
theorem dX12_returns_107 : decode cX12_returns 107 = .ok (.aload_n 0, 1) := by decide +kernel
theorem dX12_returns_108 : decode cX12_returns 108 = .ok (.bipush 29, 2) := by decide +kernel
theorem dX12_returns_110 : decode cX12_returns 110 = .ok (.invokevirtual 273, 3) := by decide +kernel
theorem dX12_returns_113 : decode cX12_returns 113 = .ok (.ireturn, 1) := by decide +kernel
theorem dX12_simple_0 : decode cX12_simple 0 = .ok (.aload_n 0, 1) := by decide +kernel
theorem dX12_simple_1 : decode cX12_simple 1 = .ok (.invokevirtual 317, 3) := by decide +kernel
theorem dX12_simple_4 : decode cX12_simple 4 = .ok (.istore_n 1, 1) := by decide +kernel
theorem dX12_simple_5 : decode cX12_simple 5 = .ok (.aload_n 0, 1) := by decide +kernel
theorem dX12_simple_6 : decode cX12_simple 6 = .ok (.getfield 230, 3) := by decide +kernel
theorem dX12_simple_9 : decode cX12_simple 9 = .ok (.ifCond .le 5, 3) := by decide +kernel
theorem dX12_simple_12 : decode cX12_simple 12 = .ok (.iconst 0, 1) := by decide +kernel
theorem dX12_simple_13 : decode cX12_simple 13 = .ok (.ireturn, 1) := by decide +kernel
theorem dX12_simple_14 : decode cX12_simple 14 = .ok (.aload_n 0, 1) := by decide +kernel
theorem dX12_simple_15 : decode cX12_simple 15 = .ok (.bipush 22, 2) := by decide +kernel
theorem dX12_simple_17 : decode cX12_simple 17 = .ok (.invokevirtual 257, 3) := by decide +kernel
theorem dX12_simple_20 : decode cX12_simple 20 = .ok (.ifCond .eq 25, 3) := by decide +kernel
theorem dX12_simple_23 : decode cX12_simple 23 = .ok (.aload_n 0, 1) := by decide +kernel
theorem dX12_simple_24 : decode cX12_simple 24 = .ok (.iload_n 1, 1) := by decide +kernel
theorem dX12_simple_25 : decode cX12_simple 25 = .ok (.iconst 0, 1) := by decide +kernel
theorem dX12_simple_26 : decode cX12_simple 26 = .ok (.invokevirtual 454, 3) := by decide +kernel
theorem dX12_simple_29 : decode cX12_simple 29 = .ok (.ifCond .ne 5, 3) := by decide +kernel
theorem dX12_simple_32 : decode cX12_simple 32 = .ok (.iconst 0, 1) := by decide +kernel
theorem dX12_simple_33 : decode cX12_simple 33 = .ok (.ireturn, 1) := by decide +kernel
theorem dX12_simple_34 : decode cX12_simple 34 = .ok (.aload_n 0, 1) := by decide +kernel
theorem dX12_simple_35 : decode cX12_simple 35 = .ok (.bipush 18, 2) := by decide +kernel
theorem dX12_simple_37 : decode cX12_simple 37 = .ok (.iconst 0, 1) := by decide +kernel
theorem dX12_simple_38 : decode cX12_simple 38 = .ok (.iconst 0, 1) := by decide +kernel
theorem dX12_simple_39 : decode cX12_simple 39 = .ok (.invokevirtual 401, 3) := by decide +kernel
theorem dX12_simple_42 : decode cX12_simple 42 = .ok (.pop, 1) := by decide +kernel
theorem dX12_simple_43 : decode cX12_simple 43 = .ok (.iconst 1, 1) := by decide +kernel
theorem dX12_simple_44 : decode cX12_simple 44 = .ok (.ireturn, 1) := by decide +kernel
theorem dX12_simple_45 : decode cX12_simple 45 = .ok (.aload_n 0, 1) := by decide +kernel
theorem dX12_simple_46 : decode cX12_simple 46 = .ok (.getfield 245, 3) := by decide +kernel
theorem dX12_simple_49 : decode cX12_simple 49 = .ok (.ifCond .ne 7, 3) := by decide +kernel
theorem dX12_simple_52 : decode cX12_simple 52 = .ok (.iconst (-1), 1) := by decide +kernel
theorem dX12_simple_53 : decode cX12_simple 53 = .ok (.goto 8, 3) := by decide +kernel
theorem dX12_simple_56 : decode cX12_simple 56 = .ok (.aload_n 0, 1) := by decide +kernel
theorem dX12_simple_57 : decode cX12_simple 57 = .ok (.iload_n 1, 1) := by decide +kernel
theorem dX12_simple_58 : decode cX12_simple 58 = .ok (.invokevirtual 457, 3) := by decide +kernel
theorem dX12_simple_61 : decode cX12_simple 61 = .ok (.istore_n 2, 1) := by decide +kernel
theorem dX12_simple_62 : decode cX12_simple 62 = .ok (.aload_n 0, 1) := by decide +kernel
theorem dX12_simple_63 : decode cX12_simple 63 = .ok (.getfield 245, 3) := by decide +kernel
theorem dX12_simple_66 : decode cX12_simple 66 = .ok (.ifCond .le 20, 3) := by decide +kernel
theorem dX12_simple_69 : decode cX12_simple 69 = .ok (.iload_n 2, 1) := by decide +kernel
theorem dX12_simple_70 : decode cX12_simple 70 = .ok (.iconst (-1), 1) := by decide +kernel
theorem dX12_simple_71 : decode cX12_simple 71 = .ok (.if_icmp .ne 15, 3) := by decide +kernel
theorem dX12_simple_74 : decode cX12_simple 74 = .ok (.aload_n 0, 1) := by decide +kernel
theorem dX12_simple_75 : decode cX12_simple 75 = .ok (.getfield 374, 3) := by decide +kernel
theorem dX12_simple_78 : decode cX12_simple 78 = .ok (.iconst (-1), 1) := by decide +kernel
theorem dX12_simple_79 : decode cX12_simple 79 = .ok (.if_icmp .ne 7, 3) := by decide +kernel
theorem dX12_simple_82 : decode cX12_simple 82 = .ok (.iconst 1, 1) := by decide +kernel
theorem dX12_simple_83 : decode cX12_simple 83 = .ok (.goto 4, 3) := by decide +kernel
theorem dX12_simple_86 : decode cX12_simple 86 = .ok (.iconst 0, 1) := by decide +kernel
theorem dX12_simple_87 : decode cX12_simple 87 = .ok (.istore_n 3, 1) := by decide +kernel
theorem dX12_simple_88 : decode cX12_simple 88 = .ok (.aload_n 0, 1) := by decide +kernel
theorem dX12_simple_89 : decode cX12_simple 89 = .ok (.bipush 24, 2) := by decide +kernel
theorem dX12_simple_91 : decode cX12_simple 91 = .ok (.invokevirtual 257, 3) := by decide +kernel
theorem dX12_simple_94 : decode cX12_simple 94 = .ok (.istore 4, 2) := by decide +kernel
theorem dX12_simple_96 : decode cX12_simple 96 = .ok (.iload_n 3, 1) := by decide +kernel
theorem dX12_simple_97 : decode cX12_simple 97 = .ok (.ifCond .eq 14, 3) := by decide +kernel
theorem dX12_simple_100 : decode cX12_simple 100 = .ok (.aload_n 0, 1) := by decide +kernel
theorem dX12_simple_101 : decode cX12_simple 101 = .ok (.iconst 4, 1) := by decide +kernel
theorem dX12_simple_102 : decode cX12_simple 102 = .ok (.aload_n 0, 1) := by decide +kernel
theorem dX12_simple_103 : decode cX12_simple 103 = .ok (.getfield 22, 3) := by decide +kernel
theorem dX12_simple_106 : decode cX12_simple 106 = .ok (.iload_n 1, 1) := by decide +kernel
theorem dX12_simple_107 : decode cX12_simple 107 = .ok (.iaload, 1) := by decide +kernel
theorem dX12_simple_108 : decode cX12_simple 108 = .ok (.invokevirtual 352, 3) := by decide +kernel
theorem dX12_simple_111 : decode cX12_simple 111 = .ok (.iload_n 2, 1) := by decide +kernel
theorem dX12_simple_112 : decode cX12_simple 112 = .ok (.iconst (-1), 1) := by decide +kernel
theorem dX12_simple_113 : decode cX12_simple 113 = .ok (.if_icmp .eq 35, 3) := by decide +kernel
theorem dX12_simple_116 : decode cX12_simple 116 = .ok (.iload 4, 2) := by decide +kernel
theorem dX12_simple_118 : decode cX12_simple 118 = .ok (.ifCond .eq 16, 3) := by decide +kernel
theorem dX12_simple_121 : decode cX12_simple 121 = .ok (.aload_n 0, 1) := by decide +kernel
theorem dX12_simple_122 : decode cX12_simple 122 = .ok (.getfield 40, 3) := by decide +kernel
theorem dX12_simple_125 : decode cX12_simple 125 = .ok (.iload_n 2, 1) := by decide +kernel
theorem dX12_simple_126 : decode cX12_simple 126 = .ok (.iaload, 1) := by decide +kernel
theorem dX12_simple_127 : decode cX12_simple 127 = .ok (.iconst 2, 1) := by decide +kernel
theorem dX12_simple_128 : decode cX12_simple 128 = .ok (.if_icmp .ne 20, 3) := by decide +kernel
theorem dX12_simple_131 : decode cX12_simple 131 = .ok (.goto 13, 3) := by decide +kernel
theorem dX12_simple_134 : decode cX12_simple 134 = .ok (.aload_n 0, 1) := by decide +kernel
theorem dX12_simple_135 : decode cX12_simple 135 = .ok (.getfield 40, 3) := by decide +kernel
theorem dX12_simple_138 : decode cX12_simple 138 = .ok (.iload_n 2, 1) := by decide +kernel
theorem dX12_simple_139 : decode cX12_simple 139 = .ok (.iaload, 1) := by decide +kernel
theorem dX12_simple_140 : decode cX12_simple 140 = .ok (.iconst 1, 1) := by decide +kernel
theorem dX12_simple_141 : decode cX12_simple 141 = .ok (.if_icmp .ne 7, 3) := by decide +kernel
theorem dX12_simple_144 : decode cX12_simple 144 = .ok (.iconst 1, 1) := by decide +kernel
theorem dX12_simple_145 : decode cX12_simple 145 = .ok (.goto 4, 3) := by decide +kernel
theorem dX12_simple_148 : decode cX12_simple 148 = .ok (.iconst 0, 1) := by decide +kernel
theorem dX12_simple_149 : decode cX12_simple 149 = .ok (.istore 5, 2) := by decide +kernel
theorem dX12_simple_151 : decode cX12_simple 151 = .ok (.iload_n 3, 1) := by decide +kernel
theorem dX12_simple_152 : decode cX12_simple 152 = .ok (.ifCond .ne 20, 3) := by decide +kernel
theorem dX12_simple_155 : decode cX12_simple 155 = .ok (.iload 5, 2) := by decide +kernel
theorem dX12_simple_157 : decode cX12_simple 157 = .ok (.ifCond .ne 15, 3) := by decide +kernel
theorem dX12_simple_160 : decode cX12_simple 160 = .ok (.aload_n 0, 1) := by decide +kernel
theorem dX12_simple_161 : decode cX12_simple 161 = .ok (.bipush 6, 2) := by decide +kernel
theorem dX12_simple_163 : decode cX12_simple 163 = .ok (.aload_n 0, 1) := by decide +kernel
theorem dX12_simple_164 : decode cX12_simple 164 = .ok (.getfield 22, 3) := by decide +kernel
theorem dX12_simple_167 : decode cX12_simple 167 = .ok (.iload_n 1, 1) := by decide +kernel
theorem dX12_simple_168 : decode cX12_simple 168 = .ok (.iaload, 1) := by decide +kernel
theorem dX12_simple_169 : decode cX12_simple 169 = .ok (.invokevirtual 352, 3) := by decide +kernel
theorem dX12_simple_172 : decode cX12_simple 172 = .ok (.iload_n 2, 1) := by decide +kernel
theorem dX12_simple_173 : decode cX12_simple 173 = .ok (.iconst (-1), 1) := by decide +kernel
theorem dX12_simple_174 : decode cX12_simple 174 = .ok (.if_icmp .eq 16, 3) := by decide +kernel
theorem dX12_simple_177 : decode cX12_simple 177 = .ok (.aload_n 0, 1) := by decide +kernel
theorem dX12_simple_178 : decode cX12_simple 178 = .ok (.getfield 55, 3) := by decide +kernel
theorem dX12_simple_181 : decode cX12_simple 181 = .ok (.iload_n 2, 1) := by decide +kernel
theorem dX12_simple_182 : decode cX12_simple 182 = .ok (.baload, 1) := by decide +kernel
theorem dX12_simple_183 : decode cX12_simple 183 = .ok (.ifCond .eq 7, 3) := by decide +kernel
theorem dX12_simple_186 : decode cX12_simple 186 = .ok (.iconst 1, 1) := by decide +kernel
theorem dX12_simple_187 : decode cX12_simple 187 = .ok (.goto 4, 3) := by decide +kernel
theorem dX12_simple_190 : decode cX12_simple 190 = .ok (.iconst 0, 1) := by decide +kernel
theorem dX12_simple_191 : decode cX12_simple 191 = .ok (.istore 6, 2) := by decide +kernel
theorem dX12_simple_193 : decode cX12_simple 193 = .ok (.iload_n 2, 1) := by decide +kernel
theorem dX12_simple_194 : decode cX12_simple 194 = .ok (.iconst (-1), 1) := by decide +kernel
theorem dX12_simple_195 : decode cX12_simple 195 = .ok (.if_icmp .eq 16, 3) := by decide +kernel
theorem dX12_simple_198 : decode cX12_simple 198 = .ok (.aload_n 0, 1) := by decide +kernel
theorem dX12_simple_199 : decode cX12_simple 199 = .ok (.getfield 59, 3) := by decide +kernel
theorem dX12_simple_202 : decode cX12_simple 202 = .ok (.iload_n 2, 1) := by decide +kernel
theorem dX12_simple_203 : decode cX12_simple 203 = .ok (.baload, 1) := by decide +kernel
theorem dX12_simple_204 : decode cX12_simple 204 = .ok (.ifCond .eq 7, 3) := by decide +kernel
theorem dX12_simple_207 : decode cX12_simple 207 = .ok (.iconst 1, 1) := by decide +kernel
theorem dX12_simple_208 : decode cX12_simple 208 = .ok (.goto 4, 3) := by decide +kernel
theorem dX12_simple_211 : decode cX12_simple 211 = .ok (.iconst 0, 1) := by decide +kernel
theorem dX12_simple_212 : decode cX12_simple 212 = .ok (.istore 7, 2) := by decide +kernel
theorem dX12_simple_214 : decode cX12_simple 214 = .ok (.iload_n 2, 1) := by decide +kernel
theorem dX12_simple_215 : decode cX12_simple 215 = .ok (.iconst (-1), 1) := by decide +kernel
theorem dX12_simple_216 : decode cX12_simple 216 = .ok (.if_icmp .ne 7, 3) := by decide +kernel
theorem dX12_simple_219 : decode cX12_simple 219 = .ok (.iconst 0, 1) := by decide +kernel
theorem dX12_simple_220 : decode cX12_simple 220 = .ok (.goto 9, 3) := by decide +kernel
theorem dX12_simple_223 : decode cX12_simple 223 = .ok (.aload_n 0, 1) := by decide +kernel
theorem dX12_simple_224 : decode cX12_simple 224 = .ok (.getfield 49, 3) := by decide +kernel
theorem dX12_simple_227 : decode cX12_simple 227 = .ok (.iload_n 2, 1) := by decide +kernel
theorem dX12_simple_228 : decode cX12_simple 228 = .ok (.iaload, 1) := by decide +kernel
theorem dX12_simple_229 : decode cX12_simple 229 = .ok (.istore 8, 2) := by decide +kernel
theorem dX12_simple_231 : decode cX12_simple 231 = .ok (.iload 4, 2) := by decide +kernel
theorem dX12_simple_233 : decode cX12_simple 233 = .ok (.ifCond .eq 13, 3) := by decide +kernel
theorem dX12_simple_236 : decode cX12_simple 236 = .ok (.aload_n 0, 1) := by decide +kernel
theorem dX12_simple_237 : decode cX12_simple 237 = .ok (.iload_n 2, 1) := by decide +kernel
theorem dX12_simple_238 : decode cX12_simple 238 = .ok (.invokevirtual 460, 3) := by decide +kernel
theorem dX12_simple_241 : decode cX12_simple 241 = .ok (.ifCond .ne 5, 3) := by decide +kernel
theorem dX12_simple_244 : decode cX12_simple 244 = .ok (.iconst 0, 1) := by decide +kernel
theorem dX12_simple_245 : decode cX12_simple 245 = .ok (.ireturn, 1) := by decide +kernel
theorem dX12_simple_246 : decode cX12_simple 246 = .ok (.aload_n 0, 1) := by decide +kernel
theorem dX12_simple_247 : decode cX12_simple 247 = .ok (.getfield 16, 3) := by decide +kernel
theorem dX12_simple_250 : decode cX12_simple 250 = .ok (.aload_n 0, 1) := by decide +kernel
theorem dX12_simple_251 : decode cX12_simple 251 = .ok (.getfield 233, 3) := by decide +kernel
theorem dX12_simple_254 : decode cX12_simple 254 = .ok (.iaload, 1) := by decide +kernel
theorem dX12_simple_255 : decode cX12_simple 255 = .ok (.iconst 4, 1) := by decide +kernel
theorem dX12_simple_256 : decode cX12_simple 256 = .ok (.if_icmp .ne 15, 3) := by decide +kernel
theorem dX12_simple_259 : decode cX12_simple 259 = .ok (.aload_n 0, 1) := by decide +kernel
theorem dX12_simple_260 : decode cX12_simple 260 = .ok (.getfield 19, 3) := by decide +kernel
theorem dX12_simple_263 : decode cX12_simple 263 = .ok (.aload_n 0, 1) := by decide +kernel
theorem dX12_simple_264 : decode cX12_simple 264 = .ok (.getfield 233, 3) := by decide +kernel
theorem dX12_simple_267 : decode cX12_simple 267 = .ok (.iaload, 1) := by decide +kernel
theorem dX12_simple_268 : decode cX12_simple 268 = .ok (.goto 4, 3) := by decide +kernel
theorem dX12_simple_271 : decode cX12_simple 271 = .ok (.iconst (-1), 1) := by decide +kernel
theorem dX12_simple_272 : decode cX12_simple 272 = .ok (.istore 9, 2) := by decide +kernel
theorem dX12_simple_274 : decode cX12_simple 274 = .ok (.iload 9, 2) := by decide +kernel
theorem dX12_simple_276 : decode cX12_simple 276 = .ok (.bipush 32, 2) := by decide +kernel
theorem dX12_simple_278 : decode cX12_simple 278 = .ok (.if_icmp .eq 47, 3) := by decide +kernel
theorem dX12_simple_281 : decode cX12_simple 281 = .ok (.iload 9, 2) := by decide +kernel
theorem dX12_simple_283 : decode cX12_simple 283 = .ok (.bipush 12, 2) := by decide +kernel
theorem dX12_simple_285 : decode cX12_simple 285 = .ok (.if_icmp .eq 40, 3) := by decide +kernel
theorem dX12_simple_288 : decode cX12_simple 288 = .ok (.iload 9, 2) := by decide +kernel
theorem dX12_simple_290 : decode cX12_simple 290 = .ok (.bipush 13, 2) := by decide +kernel
theorem dX12_simple_292 : decode cX12_simple 292 = .ok (.if_icmp .eq 33, 3) := by decide +kernel
theorem dX12_simple_295 : decode cX12_simple 295 = .ok (.iload 9, 2) := by decide +kernel
theorem dX12_simple_297 : decode cX12_simple 297 = .ok (.ifCond .eq 28, 3) := by decide +kernel
theorem dX12_simple_300 : decode cX12_simple 300 = .ok (.iload 9, 2) := by decide +kernel
theorem dX12_simple_302 : decode cX12_simple 302 = .ok (.iconst 2, 1) := by decide +kernel
theorem dX12_simple_303 : decode cX12_simple 303 = .ok (.if_icmp .eq 22, 3) := by decide +kernel
theorem dX12_simple_306 : decode cX12_simple 306 = .ok (.iload 9, 2) := by decide +kernel
theorem dX12_simple_308 : decode cX12_simple 308 = .ok (.iconst 3, 1) := by decide +kernel
theorem dX12_simple_309 : decode cX12_simple 309 = .ok (.if_icmp .eq 16, 3) := by decide +kernel
theorem dX12_simple_312 : decode cX12_simple 312 = .ok (.iload 9, 2) := by decide +kernel
theorem dX12_simple_314 : decode cX12_simple 314 = .ok (.iconst 4, 1) := by decide +kernel
theorem dX12_simple_315 : decode cX12_simple 315 = .ok (.if_icmp .lt 14, 3) := by decide +kernel
theorem dX12_simple_318 : decode cX12_simple 318 = .ok (.iload 9, 2) := by decide +kernel
theorem dX12_simple_320 : decode cX12_simple 320 = .ok (.bipush 12, 2) := by decide +kernel
theorem dX12_simple_322 : decode cX12_simple 322 = .ok (.if_icmp .ge 7, 3) := by decide +kernel
theorem dX12_simple_325 : decode cX12_simple 325 = .ok (.iconst 1, 1) := by decide +kernel
theorem dX12_simple_326 : decode cX12_simple 326 = .ok (.goto 4, 3) := by decide +kernel
theorem dX12_simple_329 : decode cX12_simple 329 = .ok (.iconst 0, 1) := by decide +kernel
theorem dX12_simple_330 : decode cX12_simple 330 = .ok (.istore 10, 2) := by decide +kernel
theorem dX12_simple_332 : decode cX12_simple 332 = .ok (.iload 10, 2) := by decide +kernel
theorem dX12_simple_334 : decode cX12_simple 334 = .ok (.ifCond .ne 9, 3) := by decide +kernel
theorem dX12_simple_337 : decode cX12_simple 337 = .ok (.aload_n 0, 1) := by decide +kernel
theorem dX12_simple_338 : decode cX12_simple 338 = .ok (.iconst 2, 1) := by decide +kernel
theorem dX12_simple_339 : decode cX12_simple 339 = .ok (.invokevirtual 260, 3) := by decide +kernel
theorem dX12_simple_342 : decode cX12_simple 342 = .ok (.ireturn, 1) := by decide +kernel
theorem dX12_simple_343 : decode cX12_simple 343 = .ok (.aload_n 0, 1) := by decide +kernel
theorem dX12_simple_344 : decode cX12_simple 344 = .ok (.dup, 1) := by decide +kernel
theorem dX12_simple_345 : decode cX12_simple 345 = .ok (.getfield 233, 3) := by decide +kernel
theorem dX12_simple_348 : decode cX12_simple 348 = .ok (.iconst 1, 1) := by decide +kernel
theorem dX12_simple_349 : decode cX12_simple 349 = .ok (.iadd, 1) := by decide +kernel
theorem dX12_simple_350 : decode cX12_simple 350 = .ok (.putfield 233, 3) := by decide +kernel
theorem dX12_simple_353 : decode cX12_simple 353 = .ok (.iload 9, 2) := by decide +kernel
theorem dX12_simple_355 : decode cX12_simple 355 = .ok (.bipush 32, 2) := by decide +kernel
theorem dX12_simple_357 : decode cX12_simple 357 = .ok (.if_icmp .eq 47, 3) := by decide +kernel
theorem dX12_simple_360 : decode cX12_simple 360 = .ok (.iload 4, 2) := by decide +kernel
theorem dX12_simple_362 : decode cX12_simple 362 = .ok (.ifCond .eq 24, 3) := by decide +kernel
theorem dX12_simple_365 : decode cX12_simple 365 = .ok (.aload_n 0, 1) := by decide +kernel
theorem dX12_simple_366 : decode cX12_simple 366 = .ok (.bipush 9, 2) := by decide +kernel
theorem dX12_simple_368 : decode cX12_simple 368 = .ok (.iconst 0, 1) := by decide +kernel
theorem dX12_simple_369 : decode cX12_simple 369 = .ok (.iconst 0, 1) := by decide +kernel
theorem dX12_simple_370 : decode cX12_simple 370 = .ok (.invokevirtual 401, 3) := by decide +kernel
theorem dX12_simple_373 : decode cX12_simple 373 = .ok (.pop, 1) := by decide +kernel
theorem dX12_simple_374 : decode cX12_simple 374 = .ok (.aload_n 0, 1) := by decide +kernel
theorem dX12_simple_375 : decode cX12_simple 375 = .ok (.bipush 7, 2) := by decide +kernel
theorem dX12_simple_377 : decode cX12_simple 377 = .ok (.iconst 0, 1) := by decide +kernel
theorem dX12_simple_378 : decode cX12_simple 378 = .ok (.iconst 0, 1) := by decide +kernel
theorem dX12_simple_379 : decode cX12_simple 379 = .ok (.invokevirtual 401, 3) := by decide +kernel
theorem dX12_simple_382 : decode cX12_simple 382 = .ok (.pop, 1) := by decide +kernel
theorem dX12_simple_383 : decode cX12_simple 383 = .ok (.goto 21, 3) := by decide +kernel
theorem dX12_simple_386 : decode cX12_simple 386 = .ok (.aload_n 0, 1) := by decide +kernel
theorem dX12_simple_387 : decode cX12_simple 387 = .ok (.iload 7, 2) := by decide +kernel
theorem dX12_simple_389 : decode cX12_simple 389 = .ok (.ifCond .eq 7, 3) := by decide +kernel
theorem dX12_simple_392 : decode cX12_simple 392 = .ok (.iconst 1, 1) := by decide +kernel
theorem dX12_simple_393 : decode cX12_simple 393 = .ok (.goto 4, 3) := by decide +kernel
theorem dX12_simple_396 : decode cX12_simple 396 = .ok (.iconst 3, 1) := by decide +kernel
theorem dX12_simple_397 : decode cX12_simple 397 = .ok (.iload 8, 2) := by decide +kernel
theorem dX12_simple_399 : decode cX12_simple 399 = .ok (.iconst 0, 1) := by decide +kernel
theorem dX12_simple_400 : decode cX12_simple 400 = .ok (.invokevirtual 401, 3) := by decide +kernel
theorem dX12_simple_403 : decode cX12_simple 403 = .ok (.pop, 1) := by decide +kernel
theorem dX12_simple_404 : decode cX12_simple 404 = .ok (.iload 9, 2) := by decide +kernel
theorem dX12_simple_406 : decode cX12_simple 406 = .ok (.bipush 12, 2) := by decide +kernel
theorem dX12_simple_408 : decode cX12_simple 408 = .ok (.if_icmp .eq 10, 3) := by decide +kernel
theorem dX12_simple_411 : decode cX12_simple 411 = .ok (.iload 9, 2) := by decide +kernel
theorem dX12_simple_413 : decode cX12_simple 413 = .ok (.bipush 13, 2) := by decide +kernel
theorem dX12_simple_415 : decode cX12_simple 415 = .ok (.if_icmp .ne 14, 3) := by decide +kernel
theorem dX12_simple_418 : decode cX12_simple 418 = .ok (.aload_n 0, 1) := by decide +kernel
theorem dX12_simple_419 : decode cX12_simple 419 = .ok (.iconst 0, 1) := by decide +kernel
theorem dX12_simple_420 : decode cX12_simple 420 = .ok (.iconst 1, 1) := by decide +kernel
theorem dX12_simple_421 : decode cX12_simple 421 = .ok (.iconst 0, 1) := by decide +kernel
theorem dX12_simple_422 : decode cX12_simple 422 = .ok (.invokevirtual 401, 3) := by decide +kernel
theorem dX12_simple_425 : decode cX12_simple 425 = .ok (.pop, 1) := by decide +kernel
theorem dX12_simple_426 : decode cX12_simple 426 = .ok (.goto 12, 3) := by decide +kernel
theorem dX12_simple_429 : decode cX12_simple 429 = .ok (.aload_n 0, 1) := by decide +kernel
theorem dX12_simple_430 : decode cX12_simple 430 = .ok (.invokevirtual 368, 3) := by decide +kernel
theorem dX12_simple_433 : decode cX12_simple 433 = .ok (.ifCond .ne 5, 3) := by decide +kernel
theorem dX12_simple_436 : decode cX12_simple 436 = .ok (.iconst 0, 1) := by decide +kernel
theorem dX12_simple_437 : decode cX12_simple 437 = .ok (.ireturn, 1) := by decide +kernel
theorem dX12_simple_438 : decode cX12_simple 438 = .ok (.iload 9, 2) := by decide +kernel
theorem dX12_simple_440 : decode cX12_simple 440 = .ok (.bipush 32, 2) := by decide +kernel
theorem dX12_simple_442 : decode cX12_simple 442 = .ok (.if_icmp .eq 142, 3) := by decide +kernel
theorem dX12_simple_445 : decode cX12_simple 445 = .ok (.aload_n 0, 1) := by decide +kernel
theorem dX12_simple_446 : decode cX12_simple 446 = .ok (.bipush 10, 2) := by decide +kernel
theorem dX12_simple_448 : decode cX12_simple 448 = .ok (.iload 9, 2) := by decide +kernel
theorem dX12_simple_450 : decode cX12_simple 450 = .ok (.bipush 12, 2) := by decide +kernel
theorem dX12_simple_452 : decode cX12_simple 452 = .ok (.if_icmp .eq 9, 3) := by decide +kernel
theorem dX12_simple_455 : decode cX12_simple 455 = .ok (.iload 9, 2) := by decide +kernel
theorem dX12_simple_457 : decode cX12_simple 457 = .ok (.iconst 4, 1) := by decide +kernel
theorem dX12_simple_458 : decode cX12_simple 458 = .ok (.if_icmp .ne 8, 3) := by decide +kernel
theorem dX12_simple_461 : decode cX12_simple 461 = .ok (.bipush 38, 2) := by decide +kernel
theorem dX12_simple_463 : decode cX12_simple 463 = .ok (.goto 116, 3) := by decide +kernel
theorem dX12_simple_466 : decode cX12_simple 466 = .ok (.iload 9, 2) := by decide +kernel
theorem dX12_simple_468 : decode cX12_simple 468 = .ok (.bipush 13, 2) := by decide +kernel
theorem dX12_simple_470 : decode cX12_simple 470 = .ok (.if_icmp .eq 9, 3) := by decide +kernel
theorem dX12_simple_473 : decode cX12_simple 473 = .ok (.iload 9, 2) := by decide +kernel
theorem dX12_simple_475 : decode cX12_simple 475 = .ok (.iconst 5, 1) := by decide +kernel
theorem dX12_simple_476 : decode cX12_simple 476 = .ok (.if_icmp .ne 8, 3) := by decide +kernel
theorem dX12_simple_479 : decode cX12_simple 479 = .ok (.bipush 39, 2) := by decide +kernel
theorem dX12_simple_481 : decode cX12_simple 481 = .ok (.goto 98, 3) := by decide +kernel
theorem dX12_simple_484 : decode cX12_simple 484 = .ok (.iload 9, 2) := by decide +kernel
theorem dX12_simple_486 : decode cX12_simple 486 = .ok (.bipush 6, 2) := by decide +kernel
theorem dX12_simple_488 : decode cX12_simple 488 = .ok (.if_icmp .ne 8, 3) := by decide +kernel
theorem dX12_simple_491 : decode cX12_simple 491 = .ok (.bipush 40, 2) := by decide +kernel
theorem dX12_simple_493 : decode cX12_simple 493 = .ok (.goto 86, 3) := by decide +kernel
theorem dX12_simple_496 : decode cX12_simple 496 = .ok (.iload 9, 2) := by decide +kernel
theorem dX12_simple_498 : decode cX12_simple 498 = .ok (.bipush 7, 2) := by decide +kernel
theorem dX12_simple_500 : decode cX12_simple 500 = .ok (.if_icmp .ne 8, 3) := by decide +kernel
theorem dX12_simple_503 : decode cX12_simple 503 = .ok (.bipush 41, 2) := by decide +kernel
theorem dX12_simple_505 : decode cX12_simple 505 = .ok (.goto 74, 3) := by decide +kernel
theorem dX12_simple_508 : decode cX12_simple 508 = .ok (.iload 9, 2) := by decide +kernel
theorem dX12_simple_510 : decode cX12_simple 510 = .ok (.bipush 8, 2) := by decide +kernel
theorem dX12_simple_512 : decode cX12_simple 512 = .ok (.if_icmp .ne 8, 3) := by decide +kernel
theorem dX12_simple_515 : decode cX12_simple 515 = .ok (.bipush 42, 2) := by decide +kernel
theorem dX12_simple_517 : decode cX12_simple 517 = .ok (.goto 62, 3) := by decide +kernel
theorem dX12_simple_520 : decode cX12_simple 520 = .ok (.iload 9, 2) := by decide +kernel
theorem dX12_simple_522 : decode cX12_simple 522 = .ok (.bipush 9, 2) := by decide +kernel
theorem dX12_simple_524 : decode cX12_simple 524 = .ok (.if_icmp .ne 8, 3) := by decide +kernel
theorem dX12_simple_527 : decode cX12_simple 527 = .ok (.bipush 35, 2) := by decide +kernel
theorem dX12_simple_529 : decode cX12_simple 529 = .ok (.goto 50, 3) := by decide +kernel
theorem dX12_simple_532 : decode cX12_simple 532 = .ok (.iload 9, 2) := by decide +kernel
theorem dX12_simple_534 : decode cX12_simple 534 = .ok (.bipush 10, 2) := by decide +kernel
theorem dX12_simple_536 : decode cX12_simple 536 = .ok (.if_icmp .ne 8, 3) := by decide +kernel
theorem dX12_simple_539 : decode cX12_simple 539 = .ok (.bipush 33, 2) := by decide +kernel
theorem dX12_simple_541 : decode cX12_simple 541 = .ok (.goto 38, 3) := by decide +kernel
theorem dX12_simple_544 : decode cX12_simple 544 = .ok (.iload 9, 2) := by decide +kernel
theorem dX12_simple_546 : decode cX12_simple 546 = .ok (.bipush 11, 2) := by decide +kernel
theorem dX12_simple_548 : decode cX12_simple 548 = .ok (.if_icmp .ne 8, 3) := by decide +kernel
theorem dX12_simple_551 : decode cX12_simple 551 = .ok (.bipush 34, 2) := by decide +kernel
theorem dX12_simple_553 : decode cX12_simple 553 = .ok (.goto 26, 3) := by decide +kernel
theorem dX12_simple_556 : decode cX12_simple 556 = .ok (.iload 9, 2) := by decide +kernel
theorem dX12_simple_558 : decode cX12_simple 558 = .ok (.iconst 2, 1) := by decide +kernel
theorem dX12_simple_559 : decode cX12_simple 559 = .ok (.if_icmp .ne 8, 3) := by decide +kernel
theorem dX12_simple_562 : decode cX12_simple 562 = .ok (.bipush 20, 2) := by decide +kernel
theorem dX12_simple_564 : decode cX12_simple 564 = .ok (.goto 15, 3) := by decide +kernel
theorem dX12_simple_567 : decode cX12_simple 567 = .ok (.iload 9, 2) := by decide +kernel
theorem dX12_simple_569 : decode cX12_simple 569 = .ok (.iconst 3, 1) := by decide +kernel
theorem dX12_simple_570 : decode cX12_simple 570 = .ok (.if_icmp .ne 8, 3) := by decide +kernel
theorem dX12_simple_573 : decode cX12_simple 573 = .ok (.bipush 21, 2) := by decide +kernel
theorem dX12_simple_575 : decode cX12_simple 575 = .ok (.goto 4, 3) := by decide +kernel
theorem dX12_simple_578 : decode cX12_simple 578 = .ok (.iconst 1, 1) := by decide +kernel
theorem dX12_simple_579 : decode cX12_simple 579 = .ok (.iconst 0, 1) := by decide +kernel
theorem dX12_simple_580 : decode cX12_simple 580 = .ok (.invokevirtual 401, 3) := by decide +kernel
theorem dX12_simple_583 : decode cX12_simple 583 = .ok (.pop, 1) := by decide +kernel
theorem dX12_simple_584 : decode cX12_simple 584 = .ok (.iload 4, 2) := by decide +kernel
theorem dX12_simple_586 : decode cX12_simple 586 = .ok (.ifCond .eq 24, 3) := by decide +kernel
theorem dX12_simple_589 : decode cX12_simple 589 = .ok (.aload_n 0, 1) := by decide +kernel
theorem dX12_simple_590 : decode cX12_simple 590 = .ok (.bipush 8, 2) := by decide +kernel
theorem dX12_simple_592 : decode cX12_simple 592 = .ok (.iload 6, 2) := by decide +kernel
theorem dX12_simple_594 : decode cX12_simple 594 = .ok (.ifCond .eq 7, 3) := by decide +kernel
theorem dX12_simple_597 : decode cX12_simple 597 = .ok (.iconst 1, 1) := by decide +kernel
theorem dX12_simple_598 : decode cX12_simple 598 = .ok (.goto 4, 3) := by decide +kernel
theorem dX12_simple_601 : decode cX12_simple 601 = .ok (.iconst 0, 1) := by decide +kernel
theorem dX12_simple_602 : decode cX12_simple 602 = .ok (.iconst 0, 1) := by decide +kernel
theorem dX12_simple_603 : decode cX12_simple 603 = .ok (.invokevirtual 401, 3) := by decide +kernel
theorem dX12_simple_606 : decode cX12_simple 606 = .ok (.pop, 1) := by decide +kernel
theorem dX12_simple_607 : decode cX12_simple 607 = .ok (.goto 21, 3) := by decide +kernel
theorem dX12_simple_610 : decode cX12_simple 610 = .ok (.aload_n 0, 1) := by decide +kernel
theorem dX12_simple_611 : decode cX12_simple 611 = .ok (.iload 7, 2) := by decide +kernel
theorem dX12_simple_613 : decode cX12_simple 613 = .ok (.ifCond .eq 7, 3) := by decide +kernel
theorem dX12_simple_616 : decode cX12_simple 616 = .ok (.iconst 2, 1) := by decide +kernel
theorem dX12_simple_617 : decode cX12_simple 617 = .ok (.goto 4, 3) := by decide +kernel
theorem dX12_simple_620 : decode cX12_simple 620 = .ok (.iconst 4, 1) := by decide +kernel
theorem dX12_simple_621 : decode cX12_simple 621 = .ok (.iload 8, 2) := by decide +kernel
theorem dX12_simple_623 : decode cX12_simple 623 = .ok (.iconst 0, 1) := by decide +kernel
theorem dX12_simple_624 : decode cX12_simple 624 = .ok (.invokevirtual 401, 3) := by decide +kernel
theorem dX12_simple_627 : decode cX12_simple 627 = .ok (.pop, 1) := by decide +kernel
theorem dX12_simple_628 : decode cX12_simple 628 = .ok (.iconst 1, 1) := by decide +kernel
theorem dX12_simple_629 : decode cX12_simple 629 = .ok (.ireturn, 1) := by decide +kernel
theorem dX12_element_0 : decode cX12_element 0 = .ok (.aload_n 0, 1) := by decide +kernel
theorem dX12_element_1 : decode cX12_element 1 = .ok (.getfield 22, 3) := by decide +kernel
theorem dX12_element_4 : decode cX12_element 4 = .ok (.aload_n 0, 1) := by decide +kernel
theorem dX12_element_5 : decode cX12_element 5 = .ok (.getfield 233, 3) := by decide +kernel
theorem dX12_element_8 : decode cX12_element 8 = .ok (.iaload, 1) := by decide +kernel
theorem dX12_element_9 : decode cX12_element 9 = .ok (.istore_n 2, 1) := by decide +kernel
theorem dX12_element_10 : decode cX12_element 10 = .ok (.iload_n 1, 1) := by decide +kernel
theorem dX12_element_11 : decode cX12_element 11 = .ok (.iconst (-1), 1) := by decide +kernel
theorem dX12_element_12 : decode cX12_element 12 = .ok (.if_icmp .ne 7, 3) := by decide +kernel
theorem dX12_element_15 : decode cX12_element 15 = .ok (.iconst 0, 1) := by decide +kernel
theorem dX12_element_16 : decode cX12_element 16 = .ok (.goto 9, 3) := by decide +kernel
theorem dX12_element_19 : decode cX12_element 19 = .ok (.aload_n 0, 1) := by decide +kernel
theorem dX12_element_20 : decode cX12_element 20 = .ok (.getfield 49, 3) := by decide +kernel
theorem dX12_element_23 : decode cX12_element 23 = .ok (.iload_n 1, 1) := by decide +kernel
theorem dX12_element_24 : decode cX12_element 24 = .ok (.iaload, 1) := by decide +kernel
theorem dX12_element_25 : decode cX12_element 25 = .ok (.istore_n 3, 1) := by decide +kernel
theorem dX12_element_26 : decode cX12_element 26 = .ok (.iload_n 1, 1) := by decide +kernel
theorem dX12_element_27 : decode cX12_element 27 = .ok (.iconst (-1), 1) := by decide +kernel
theorem dX12_element_28 : decode cX12_element 28 = .ok (.if_icmp .ne 7, 3) := by decide +kernel
theorem dX12_element_31 : decode cX12_element 31 = .ok (.iconst 1, 1) := by decide +kernel
theorem dX12_element_32 : decode cX12_element 32 = .ok (.goto 9, 3) := by decide +kernel
theorem dX12_element_35 : decode cX12_element 35 = .ok (.aload_n 0, 1) := by decide +kernel
theorem dX12_element_36 : decode cX12_element 36 = .ok (.getfield 52, 3) := by decide +kernel
theorem dX12_element_39 : decode cX12_element 39 = .ok (.iload_n 1, 1) := by decide +kernel
theorem dX12_element_40 : decode cX12_element 40 = .ok (.iaload, 1) := by decide +kernel
theorem dX12_element_41 : decode cX12_element 41 = .ok (.istore 4, 2) := by decide +kernel
theorem dX12_element_43 : decode cX12_element 43 = .ok (.iload_n 1, 1) := by decide +kernel
theorem dX12_element_44 : decode cX12_element 44 = .ok (.iconst (-1), 1) := by decide +kernel
theorem dX12_element_45 : decode cX12_element 45 = .ok (.if_icmp .eq 16, 3) := by decide +kernel
theorem dX12_element_48 : decode cX12_element 48 = .ok (.aload_n 0, 1) := by decide +kernel
theorem dX12_element_49 : decode cX12_element 49 = .ok (.getfield 59, 3) := by decide +kernel
theorem dX12_element_52 : decode cX12_element 52 = .ok (.iload_n 1, 1) := by decide +kernel
theorem dX12_element_53 : decode cX12_element 53 = .ok (.baload, 1) := by decide +kernel
theorem dX12_element_54 : decode cX12_element 54 = .ok (.ifCond .eq 7, 3) := by decide +kernel
theorem dX12_element_57 : decode cX12_element 57 = .ok (.iconst 1, 1) := by decide +kernel
theorem dX12_element_58 : decode cX12_element 58 = .ok (.goto 4, 3) := by decide +kernel
theorem dX12_element_61 : decode cX12_element 61 = .ok (.iconst 0, 1) := by decide +kernel
theorem dX12_element_62 : decode cX12_element 62 = .ok (.istore 5, 2) := by decide +kernel
theorem dX12_element_64 : decode cX12_element 64 = .ok (.aload_n 0, 1) := by decide +kernel
theorem dX12_element_65 : decode cX12_element 65 = .ok (.bipush 24, 2) := by decide +kernel
theorem dX12_element_67 : decode cX12_element 67 = .ok (.invokevirtual 356, 3) := by decide +kernel
theorem dX12_element_70 : decode cX12_element 70 = .ok (.ifCond .eq 19, 3) := by decide +kernel
theorem dX12_element_73 : decode cX12_element 73 = .ok (.aload_n 0, 1) := by decide +kernel
theorem dX12_element_74 : decode cX12_element 74 = .ok (.invokevirtual 368, 3) := by decide +kernel
theorem dX12_element_77 : decode cX12_element 77 = .ok (.ifCond .eq 12, 3) := by decide +kernel
theorem dX12_element_80 : decode cX12_element 80 = .ok (.aload_n 0, 1) := by decide +kernel
theorem dX12_element_81 : decode cX12_element 81 = .ok (.bipush 25, 2) := by decide +kernel
theorem dX12_element_83 : decode cX12_element 83 = .ok (.invokevirtual 362, 3) := by decide +kernel
theorem dX12_element_86 : decode cX12_element 86 = .ok (.ifCond .ne 5, 3) := by decide +kernel
theorem dX12_element_89 : decode cX12_element 89 = .ok (.iconst 0, 1) := by decide +kernel
theorem dX12_element_90 : decode cX12_element 90 = .ok (.ireturn, 1) := by decide +kernel
theorem dX12_element_91 : decode cX12_element 91 = .ok (.aload_n 0, 1) := by decide +kernel
theorem dX12_element_92 : decode cX12_element 92 = .ok (.bipush 6, 2) := by decide +kernel
theorem dX12_element_94 : decode cX12_element 94 = .ok (.iload_n 3, 1) := by decide +kernel
theorem dX12_element_95 : decode cX12_element 95 = .ok (.iload 4, 2) := by decide +kernel
theorem dX12_element_97 : decode cX12_element 97 = .ok (.invokevirtual 401, 3) := by decide +kernel
theorem dX12_element_100 : decode cX12_element 100 = .ok (.istore 6, 2) := by decide +kernel
theorem dX12_element_102 : decode cX12_element 102 = .ok (.aload_n 0, 1) := by decide +kernel
theorem dX12_element_103 : decode cX12_element 103 = .ok (.getfield 113, 3) := by decide +kernel
theorem dX12_element_106 : decode cX12_element 106 = .ok (.iload 6, 2) := by decide +kernel
theorem dX12_element_108 : decode cX12_element 108 = .ok (.iconst 2, 1) := by decide +kernel
theorem dX12_element_109 : decode cX12_element 109 = .ok (.iload_n 2, 1) := by decide +kernel
theorem dX12_element_110 : decode cX12_element 110 = .ok (.imul, 1) := by decide +kernel
theorem dX12_element_111 : decode cX12_element 111 = .ok (.iload 5, 2) := by decide +kernel
theorem dX12_element_113 : decode cX12_element 113 = .ok (.ifCond .eq 7, 3) := by decide +kernel
theorem dX12_element_116 : decode cX12_element 116 = .ok (.iconst 1, 1) := by decide +kernel
theorem dX12_element_117 : decode cX12_element 117 = .ok (.goto 4, 3) := by decide +kernel
theorem dX12_element_120 : decode cX12_element 120 = .ok (.iconst 0, 1) := by decide +kernel
theorem dX12_element_121 : decode cX12_element 121 = .ok (.iadd, 1) := by decide +kernel
theorem dX12_element_122 : decode cX12_element 122 = .ok (.iastore, 1) := by decide +kernel
theorem dX12_element_123 : decode cX12_element 123 = .ok (.iconst 1, 1) := by decide +kernel
theorem dX12_element_124 : decode cX12_element 124 = .ok (.ireturn, 1) := by decide +kernel
theorem dX12_expression_0 : decode cX12_expression 0 = .ok (.aload_n 0, 1) := by decide +kernel
theorem dX12_expression_1 : decode cX12_expression 1 = .ok (.invokevirtual 463, 3) := by decide +kernel
theorem dX12_expression_4 : decode cX12_expression 4 = .ok (.ifCond .ne 5, 3) := by decide +kernel
theorem dX12_expression_7 : decode cX12_expression 7 = .ok (.iconst 0, 1) := by decide +kernel
theorem dX12_expression_8 : decode cX12_expression 8 = .ok (.ireturn, 1) := by decide +kernel
theorem dX12_expression_9 : decode cX12_expression 9 = .ok (.aload_n 0, 1) := by decide +kernel
theorem dX12_expression_10 : decode cX12_expression 10 = .ok (.bipush 30, 2) := by decide +kernel
theorem dX12_expression_12 : decode cX12_expression 12 = .ok (.invokevirtual 257, 3) := by decide +kernel
theorem dX12_expression_15 : decode cX12_expression 15 = .ok (.ifCond .ne 5, 3) := by decide +kernel
theorem dX12_expression_18 : decode cX12_expression 18 = .ok (.iconst 1, 1) := by decide +kernel
theorem dX12_expression_19 : decode cX12_expression 19 = .ok (.ireturn, 1) := by decide +kernel
theorem dX12_expression_20 : decode cX12_expression 20 = .ok (.aload_n 0, 1) := by decide +kernel
theorem dX12_expression_21 : decode cX12_expression 21 = .ok (.invokevirtual 269, 3) := by decide +kernel
theorem dX12_expression_24 : decode cX12_expression 24 = .ok (.ifCond .ne 5, 3) := by decide +kernel
theorem dX12_expression_27 : decode cX12_expression 27 = .ok (.iconst 0, 1) := by decide +kernel
theorem dX12_expression_28 : decode cX12_expression 28 = .ok (.ireturn, 1) := by decide +kernel
theorem dX12_expression_29 : decode cX12_expression 29 = .ok (.aload_n 0, 1) := by decide +kernel
theorem dX12_expression_30 : decode cX12_expression 30 = .ok (.bipush 13, 2) := by decide +kernel
theorem dX12_expression_32 : decode cX12_expression 32 = .ok (.iconst 0, 1) := by decide +kernel
theorem dX12_expression_33 : decode cX12_expression 33 = .ok (.iconst 0, 1) := by decide +kernel
theorem dX12_expression_34 : decode cX12_expression 34 = .ok (.invokevirtual 401, 3) := by decide +kernel
theorem dX12_expression_37 : decode cX12_expression 37 = .ok (.istore_n 1, 1) := by decide +kernel
theorem dX12_expression_38 : decode cX12_expression 38 = .ok (.aload_n 0, 1) := by decide +kernel
theorem dX12_expression_39 : decode cX12_expression 39 = .ok (.invokevirtual 368, 3) := by decide +kernel
theorem dX12_expression_42 : decode cX12_expression 42 = .ok (.ifCond .eq 12, 3) := by decide +kernel
theorem dX12_expression_45 : decode cX12_expression 45 = .ok (.aload_n 0, 1) := by decide +kernel
theorem dX12_expression_46 : decode cX12_expression 46 = .ok (.bipush 31, 2) := by decide +kernel
theorem dX12_expression_48 : decode cX12_expression 48 = .ok (.invokevirtual 273, 3) := by decide +kernel
theorem dX12_expression_51 : decode cX12_expression 51 = .ok (.ifCond .ne 5, 3) := by decide +kernel
theorem dX12_expression_54 : decode cX12_expression 54 = .ok (.iconst 0, 1) := by decide +kernel
theorem dX12_expression_55 : decode cX12_expression 55 = .ok (.ireturn, 1) := by decide +kernel
theorem dX12_expression_56 : decode cX12_expression 56 = .ok (.aload_n 0, 1) := by decide +kernel
theorem dX12_expression_57 : decode cX12_expression 57 = .ok (.bipush 12, 2) := by decide +kernel
theorem dX12_expression_59 : decode cX12_expression 59 = .ok (.iconst 0, 1) := by decide +kernel
theorem dX12_expression_60 : decode cX12_expression 60 = .ok (.iconst 0, 1) := by decide +kernel
theorem dX12_expression_61 : decode cX12_expression 61 = .ok (.invokevirtual 401, 3) := by decide +kernel
theorem dX12_expression_64 : decode cX12_expression 64 = .ok (.istore_n 2, 1) := by decide +kernel
theorem dX12_expression_65 : decode cX12_expression 65 = .ok (.aload_n 0, 1) := by decide +kernel
theorem dX12_expression_66 : decode cX12_expression 66 = .ok (.getfield 107, 3) := by decide +kernel
theorem dX12_expression_69 : decode cX12_expression 69 = .ok (.iload_n 1, 1) := by decide +kernel
theorem dX12_expression_70 : decode cX12_expression 70 = .ok (.aload_n 0, 1) := by decide +kernel
theorem dX12_expression_71 : decode cX12_expression 71 = .ok (.getfield 276, 3) := by decide +kernel
theorem dX12_expression_74 : decode cX12_expression 74 = .ok (.iastore, 1) := by decide +kernel
theorem dX12_expression_75 : decode cX12_expression 75 = .ok (.aload_n 0, 1) := by decide +kernel
theorem dX12_expression_76 : decode cX12_expression 76 = .ok (.invokevirtual 368, 3) := by decide +kernel
theorem dX12_expression_79 : decode cX12_expression 79 = .ok (.ifCond .ne 5, 3) := by decide +kernel
theorem dX12_expression_82 : decode cX12_expression 82 = .ok (.iconst 0, 1) := by decide +kernel
theorem dX12_expression_83 : decode cX12_expression 83 = .ok (.ireturn, 1) := by decide +kernel
theorem dX12_expression_84 : decode cX12_expression 84 = .ok (.aload_n 0, 1) := by decide +kernel
theorem dX12_expression_85 : decode cX12_expression 85 = .ok (.getfield 107, 3) := by decide +kernel
theorem dX12_expression_88 : decode cX12_expression 88 = .ok (.iload_n 2, 1) := by decide +kernel
theorem dX12_expression_89 : decode cX12_expression 89 = .ok (.aload_n 0, 1) := by decide +kernel
theorem dX12_expression_90 : decode cX12_expression 90 = .ok (.getfield 276, 3) := by decide +kernel
theorem dX12_expression_93 : decode cX12_expression 93 = .ok (.iastore, 1) := by decide +kernel
theorem dX12_expression_94 : decode cX12_expression 94 = .ok (.aload_n 0, 1) := by decide +kernel
theorem dX12_expression_95 : decode cX12_expression 95 = .ok (.dup, 1) := by decide +kernel
theorem dX12_expression_96 : decode cX12_expression 96 = .ok (.getfield 266, 3) := by decide +kernel
theorem dX12_expression_99 : decode cX12_expression 99 = .ok (.iconst 1, 1) := by decide +kernel
theorem dX12_expression_100 : decode cX12_expression 100 = .ok (.isub, 1) := by decide +kernel
theorem dX12_expression_101 : decode cX12_expression 101 = .ok (.putfield 266, 3) := by decide +kernel
theorem dX12_expression_104 : decode cX12_expression 104 = .ok (.iconst 1, 1) := by decide +kernel
theorem dX12_expression_105 : decode cX12_expression 105 = .ok (.ireturn, 1) := by decide +kernel
theorem dX12_level_0 : decode cX12_level 0 = .ok (.aload_n 0, 1) := by decide +kernel
theorem dX12_level_1 : decode cX12_level 1 = .ok (.getfield 16, 3) := by decide +kernel
theorem dX12_level_4 : decode cX12_level 4 = .ok (.aload_n 0, 1) := by decide +kernel
theorem dX12_level_5 : decode cX12_level 5 = .ok (.getfield 233, 3) := by decide +kernel
theorem dX12_level_8 : decode cX12_level 8 = .ok (.iaload, 1) := by decide +kernel
theorem dX12_level_9 : decode cX12_level 9 = .ok (.iconst 4, 1) := by decide +kernel
theorem dX12_level_10 : decode cX12_level 10 = .ok (.if_icmp .eq 5, 3) := by decide +kernel
theorem dX12_level_13 : decode cX12_level 13 = .ok (.iconst (-1), 1) := by decide +kernel
theorem dX12_level_14 : decode cX12_level 14 = .ok (.ireturn, 1) := by decide +kernel
theorem dX12_level_15 : decode cX12_level 15 = .ok (.aload_n 0, 1) := by decide +kernel
theorem dX12_level_16 : decode cX12_level 16 = .ok (.getfield 19, 3) := by decide +kernel
theorem dX12_level_19 : decode cX12_level 19 = .ok (.aload_n 0, 1) := by decide +kernel
theorem dX12_level_20 : decode cX12_level 20 = .ok (.getfield 233, 3) := by decide +kernel
theorem dX12_level_23 : decode cX12_level 23 = .ok (.iaload, 1) := by decide +kernel
theorem dX12_level_24 : decode cX12_level 24 = .ok (.tableswitch 208 1 42 #[199, 208, 208, 208, 208, 208, 208, 208, 208, 208, 208, 208, 208, 184, 186, 194, 194, 196, 196, 199, 199, 208, 208, 208, 208, 208, 208, 208, 208, 208, 208, 208, 188, 190, 192, 196, 196, 202, 202, 205, 205, 205], 184) := by decide +kernel
theorem dX12_level_208 : decode cX12_level 208 = .ok (.iconst 0, 1) := by decide +kernel
theorem dX12_level_209 : decode cX12_level 209 = .ok (.ireturn, 1) := by decide +kernel
theorem dX12_level_210 : decode cX12_level 210 = .ok (.iconst 1, 1) := by decide +kernel
theorem dX12_level_211 : decode cX12_level 211 = .ok (.ireturn, 1) := by decide +kernel
theorem dX12_level_212 : decode cX12_level 212 = .ok (.iconst 2, 1) := by decide +kernel
theorem dX12_level_213 : decode cX12_level 213 = .ok (.ireturn, 1) := by decide +kernel
theorem dX12_level_214 : decode cX12_level 214 = .ok (.iconst 3, 1) := by decide +kernel
theorem dX12_level_215 : decode cX12_level 215 = .ok (.ireturn, 1) := by decide +kernel
theorem dX12_level_216 : decode cX12_level 216 = .ok (.iconst 4, 1) := by decide +kernel
theorem dX12_level_217 : decode cX12_level 217 = .ok (.ireturn, 1) := by decide +kernel
theorem dX12_level_218 : decode cX12_level 218 = .ok (.iconst 5, 1) := by decide +kernel
theorem dX12_level_219 : decode cX12_level 219 = .ok (.ireturn, 1) := by decide +kernel
theorem dX12_level_220 : decode cX12_level 220 = .ok (.bipush 6, 2) := by decide +kernel
theorem dX12_level_222 : decode cX12_level 222 = .ok (.ireturn, 1) := by decide +kernel
theorem dX12_level_223 : decode cX12_level 223 = .ok (.bipush 7, 2) := by decide +kernel
theorem dX12_level_225 : decode cX12_level 225 = .ok (.ireturn, 1) := by decide +kernel
theorem dX12_level_226 : decode cX12_level 226 = .ok (.bipush 8, 2) := by decide +kernel
theorem dX12_level_228 : decode cX12_level 228 = .ok (.ireturn, 1) := by decide +kernel
theorem dX12_level_229 : decode cX12_level 229 = .ok (.bipush 9, 2) := by decide +kernel
theorem dX12_level_231 : decode cX12_level 231 = .ok (.ireturn, 1) := by decide +kernel
theorem dX12_level_232 : decode cX12_level 232 = .ok (.iconst (-1), 1) := by decide +kernel
theorem dX12_level_233 : decode cX12_level 233 = .ok (.ireturn, 1) := by decide +kernel
theorem dX12_chain_0 : decode cX12_chain 0 = .ok (.aload_n 0, 1) := by decide +kernel
theorem dX12_chain_1 : decode cX12_chain 1 = .ok (.getfield 285, 3) := by decide +kernel
theorem dX12_chain_4 : decode cX12_chain 4 = .ok (.istore_n 1, 1) := by decide +kernel
theorem dX12_chain_5 : decode cX12_chain 5 = .ok (.aload_n 0, 1) := by decide +kernel
theorem dX12_chain_6 : decode cX12_chain 6 = .ok (.invokevirtual 466, 3) := by decide +kernel
theorem dX12_chain_9 : decode cX12_chain 9 = .ok (.istore_n 2, 1) := by decide +kernel
theorem dX12_chain_10 : decode cX12_chain 10 = .ok (.iload_n 2, 1) := by decide +kernel
theorem dX12_chain_11 : decode cX12_chain 11 = .ok (.ifCond .eq 136, 3) := by decide +kernel
theorem dX12_chain_14 : decode cX12_chain 14 = .ok (.aload_n 0, 1) := by decide +kernel
theorem dX12_chain_15 : decode cX12_chain 15 = .ok (.invokevirtual 469, 3) := by decide +kernel
theorem dX12_chain_18 : decode cX12_chain 18 = .ok (.istore_n 3, 1) := by decide +kernel
theorem dX12_chain_19 : decode cX12_chain 19 = .ok (.aload_n 0, 1) := by decide +kernel
theorem dX12_chain_20 : decode cX12_chain 20 = .ok (.getfield 285, 3) := by decide +kernel
theorem dX12_chain_23 : decode cX12_chain 23 = .ok (.iload_n 1, 1) := by decide +kernel
theorem dX12_chain_24 : decode cX12_chain 24 = .ok (.if_icmp .le 25, 3) := by decide +kernel
theorem dX12_chain_27 : decode cX12_chain 27 = .ok (.aload_n 0, 1) := by decide +kernel
theorem dX12_chain_28 : decode cX12_chain 28 = .ok (.getfield 119, 3) := by decide +kernel
theorem dX12_chain_31 : decode cX12_chain 31 = .ok (.aload_n 0, 1) := by decide +kernel
theorem dX12_chain_32 : decode cX12_chain 32 = .ok (.getfield 285, 3) := by decide +kernel
theorem dX12_chain_35 : decode cX12_chain 35 = .ok (.iconst 1, 1) := by decide +kernel
theorem dX12_chain_36 : decode cX12_chain 36 = .ok (.isub, 1) := by decide +kernel
theorem dX12_chain_37 : decode cX12_chain 37 = .ok (.iaload, 1) := by decide +kernel
theorem dX12_chain_38 : decode cX12_chain 38 = .ok (.iload_n 3, 1) := by decide +kernel
theorem dX12_chain_39 : decode cX12_chain 39 = .ok (.if_icmp .lt 10, 3) := by decide +kernel
theorem dX12_chain_42 : decode cX12_chain 42 = .ok (.aload_n 0, 1) := by decide +kernel
theorem dX12_chain_43 : decode cX12_chain 43 = .ok (.invokevirtual 472, 3) := by decide +kernel
theorem dX12_chain_46 : decode cX12_chain 46 = .ok (.goto (-27), 3) := by decide +kernel
theorem dX12_chain_49 : decode cX12_chain 49 = .ok (.iload_n 3, 1) := by decide +kernel
theorem dX12_chain_50 : decode cX12_chain 50 = .ok (.iconst (-1), 1) := by decide +kernel
theorem dX12_chain_51 : decode cX12_chain 51 = .ok (.if_icmp .ne 5, 3) := by decide +kernel
theorem dX12_chain_54 : decode cX12_chain 54 = .ok (.iconst 1, 1) := by decide +kernel
theorem dX12_chain_55 : decode cX12_chain 55 = .ok (.ireturn, 1) := by decide +kernel
theorem dX12_chain_56 : decode cX12_chain 56 = .ok (.aload_n 0, 1) := by decide +kernel
theorem dX12_chain_57 : decode cX12_chain 57 = .ok (.getfield 116, 3) := by decide +kernel
theorem dX12_chain_60 : decode cX12_chain 60 = .ok (.aload_n 0, 1) := by decide +kernel
theorem dX12_chain_61 : decode cX12_chain 61 = .ok (.getfield 285, 3) := by decide +kernel
theorem dX12_chain_64 : decode cX12_chain 64 = .ok (.aload_n 0, 1) := by decide +kernel
theorem dX12_chain_65 : decode cX12_chain 65 = .ok (.getfield 19, 3) := by decide +kernel
theorem dX12_chain_68 : decode cX12_chain 68 = .ok (.aload_n 0, 1) := by decide +kernel
theorem dX12_chain_69 : decode cX12_chain 69 = .ok (.getfield 233, 3) := by decide +kernel
theorem dX12_chain_72 : decode cX12_chain 72 = .ok (.iaload, 1) := by decide +kernel
theorem dX12_chain_73 : decode cX12_chain 73 = .ok (.iastore, 1) := by decide +kernel
theorem dX12_chain_74 : decode cX12_chain 74 = .ok (.aload_n 0, 1) := by decide +kernel
theorem dX12_chain_75 : decode cX12_chain 75 = .ok (.getfield 119, 3) := by decide +kernel
theorem dX12_chain_78 : decode cX12_chain 78 = .ok (.aload_n 0, 1) := by decide +kernel
theorem dX12_chain_79 : decode cX12_chain 79 = .ok (.getfield 285, 3) := by decide +kernel
theorem dX12_chain_82 : decode cX12_chain 82 = .ok (.iload_n 3, 1) := by decide +kernel
theorem dX12_chain_83 : decode cX12_chain 83 = .ok (.iastore, 1) := by decide +kernel
theorem dX12_chain_84 : decode cX12_chain 84 = .ok (.aload_n 0, 1) := by decide +kernel
theorem dX12_chain_85 : decode cX12_chain 85 = .ok (.getfield 122, 3) := by decide +kernel
theorem dX12_chain_88 : decode cX12_chain 88 = .ok (.aload_n 0, 1) := by decide +kernel
theorem dX12_chain_89 : decode cX12_chain 89 = .ok (.getfield 285, 3) := by decide +kernel
theorem dX12_chain_92 : decode cX12_chain 92 = .ok (.iload_n 3, 1) := by decide +kernel
theorem dX12_chain_93 : decode cX12_chain 93 = .ok (.iconst 1, 1) := by decide +kernel
theorem dX12_chain_94 : decode cX12_chain 94 = .ok (.if_icmp .le 7, 3) := by decide +kernel
theorem dX12_chain_97 : decode cX12_chain 97 = .ok (.iconst (-1), 1) := by decide +kernel
theorem dX12_chain_98 : decode cX12_chain 98 = .ok (.goto 20, 3) := by decide +kernel
theorem dX12_chain_101 : decode cX12_chain 101 = .ok (.aload_n 0, 1) := by decide +kernel
theorem dX12_chain_102 : decode cX12_chain 102 = .ok (.iload_n 3, 1) := by decide +kernel
theorem dX12_chain_103 : decode cX12_chain 103 = .ok (.ifCond .ne 8, 3) := by decide +kernel
theorem dX12_chain_106 : decode cX12_chain 106 = .ok (.bipush 14, 2) := by decide +kernel
theorem dX12_chain_108 : decode cX12_chain 108 = .ok (.goto 5, 3) := by decide +kernel
theorem dX12_chain_111 : decode cX12_chain 111 = .ok (.bipush 13, 2) := by decide +kernel
theorem dX12_chain_113 : decode cX12_chain 113 = .ok (.iconst 0, 1) := by decide +kernel
theorem dX12_chain_114 : decode cX12_chain 114 = .ok (.iconst 0, 1) := by decide +kernel
theorem dX12_chain_115 : decode cX12_chain 115 = .ok (.invokevirtual 401, 3) := by decide +kernel
theorem dX12_chain_118 : decode cX12_chain 118 = .ok (.iastore, 1) := by decide +kernel
theorem dX12_chain_119 : decode cX12_chain 119 = .ok (.aload_n 0, 1) := by decide +kernel
theorem dX12_chain_120 : decode cX12_chain 120 = .ok (.dup, 1) := by decide +kernel
theorem dX12_chain_121 : decode cX12_chain 121 = .ok (.getfield 285, 3) := by decide +kernel
theorem dX12_chain_124 : decode cX12_chain 124 = .ok (.iconst 1, 1) := by decide +kernel
theorem dX12_chain_125 : decode cX12_chain 125 = .ok (.iadd, 1) := by decide +kernel
theorem dX12_chain_126 : decode cX12_chain 126 = .ok (.putfield 285, 3) := by decide +kernel
theorem dX12_chain_129 : decode cX12_chain 129 = .ok (.aload_n 0, 1) := by decide +kernel
theorem dX12_chain_130 : decode cX12_chain 130 = .ok (.dup, 1) := by decide +kernel
theorem dX12_chain_131 : decode cX12_chain 131 = .ok (.getfield 233, 3) := by decide +kernel
theorem dX12_chain_134 : decode cX12_chain 134 = .ok (.iconst 1, 1) := by decide +kernel
theorem dX12_chain_135 : decode cX12_chain 135 = .ok (.iadd, 1) := by decide +kernel
theorem dX12_chain_136 : decode cX12_chain 136 = .ok (.putfield 233, 3) := by decide +kernel
theorem dX12_chain_139 : decode cX12_chain 139 = .ok (.aload_n 0, 1) := by decide +kernel
theorem dX12_chain_140 : decode cX12_chain 140 = .ok (.invokevirtual 466, 3) := by decide +kernel
theorem dX12_chain_143 : decode cX12_chain 143 = .ok (.istore_n 2, 1) := by decide +kernel
theorem dX12_chain_144 : decode cX12_chain 144 = .ok (.goto (-134), 3) := by decide +kernel
theorem dX12_chain_147 : decode cX12_chain 147 = .ok (.iconst 0, 1) := by decide +kernel
theorem dX12_chain_148 : decode cX12_chain 148 = .ok (.ireturn, 1) := by decide +kernel
theorem dX12_binds_0 : decode cX12_binds 0 = .ok (.aload_n 0, 1) := by decide +kernel
theorem dX12_binds_1 : decode cX12_binds 1 = .ok (.dup, 1) := by decide +kernel
theorem dX12_binds_2 : decode cX12_binds 2 = .ok (.getfield 285, 3) := by decide +kernel
theorem dX12_binds_5 : decode cX12_binds 5 = .ok (.iconst 1, 1) := by decide +kernel
theorem dX12_binds_6 : decode cX12_binds 6 = .ok (.isub, 1) := by decide +kernel
theorem dX12_binds_7 : decode cX12_binds 7 = .ok (.putfield 285, 3) := by decide +kernel
theorem dX12_binds_10 : decode cX12_binds 10 = .ok (.aload_n 0, 1) := by decide +kernel
theorem dX12_binds_11 : decode cX12_binds 11 = .ok (.getfield 119, 3) := by decide +kernel
theorem dX12_binds_14 : decode cX12_binds 14 = .ok (.aload_n 0, 1) := by decide +kernel
theorem dX12_binds_15 : decode cX12_binds 15 = .ok (.getfield 285, 3) := by decide +kernel
theorem dX12_binds_18 : decode cX12_binds 18 = .ok (.iaload, 1) := by decide +kernel
theorem dX12_binds_19 : decode cX12_binds 19 = .ok (.istore_n 1, 1) := by decide +kernel
theorem dX12_binds_20 : decode cX12_binds 20 = .ok (.iload_n 1, 1) := by decide +kernel
theorem dX12_binds_21 : decode cX12_binds 21 = .ok (.iconst 1, 1) := by decide +kernel
theorem dX12_binds_22 : decode cX12_binds 22 = .ok (.if_icmp .le 21, 3) := by decide +kernel
theorem dX12_binds_25 : decode cX12_binds 25 = .ok (.aload_n 0, 1) := by decide +kernel
theorem dX12_binds_26 : decode cX12_binds 26 = .ok (.bipush 10, 2) := by decide +kernel
theorem dX12_binds_28 : decode cX12_binds 28 = .ok (.aload_n 0, 1) := by decide +kernel
theorem dX12_binds_29 : decode cX12_binds 29 = .ok (.getfield 116, 3) := by decide +kernel
theorem dX12_binds_32 : decode cX12_binds 32 = .ok (.aload_n 0, 1) := by decide +kernel
theorem dX12_binds_33 : decode cX12_binds 33 = .ok (.getfield 285, 3) := by decide +kernel
theorem dX12_binds_36 : decode cX12_binds 36 = .ok (.iaload, 1) := by decide +kernel
theorem dX12_binds_37 : decode cX12_binds 37 = .ok (.iconst 0, 1) := by decide +kernel
theorem dX12_binds_38 : decode cX12_binds 38 = .ok (.invokevirtual 401, 3) := by decide +kernel
theorem dX12_binds_41 : decode cX12_binds 41 = .ok (.pop, 1) := by decide +kernel
theorem dX12_binds_42 : decode cX12_binds 42 = .ok (.return_, 1) := by decide +kernel
theorem dX12_binds_43 : decode cX12_binds 43 = .ok (.aload_n 0, 1) := by decide +kernel
theorem dX12_binds_44 : decode cX12_binds 44 = .ok (.bipush 23, 2) := by decide +kernel
theorem dX12_binds_46 : decode cX12_binds 46 = .ok (.iconst 0, 1) := by decide +kernel
theorem dX12_binds_47 : decode cX12_binds 47 = .ok (.iconst 0, 1) := by decide +kernel
theorem dX12_binds_48 : decode cX12_binds 48 = .ok (.invokevirtual 401, 3) := by decide +kernel
theorem dX12_binds_51 : decode cX12_binds 51 = .ok (.pop, 1) := by decide +kernel
theorem dX12_binds_52 : decode cX12_binds 52 = .ok (.aload_n 0, 1) := by decide +kernel
theorem dX12_binds_53 : decode cX12_binds 53 = .ok (.bipush 12, 2) := by decide +kernel
theorem dX12_binds_55 : decode cX12_binds 55 = .ok (.iconst 0, 1) := by decide +kernel
theorem dX12_binds_56 : decode cX12_binds 56 = .ok (.iconst 0, 1) := by decide +kernel
theorem dX12_binds_57 : decode cX12_binds 57 = .ok (.invokevirtual 401, 3) := by decide +kernel
theorem dX12_binds_60 : decode cX12_binds 60 = .ok (.istore_n 2, 1) := by decide +kernel
theorem dX12_binds_61 : decode cX12_binds 61 = .ok (.aload_n 0, 1) := by decide +kernel
theorem dX12_binds_62 : decode cX12_binds 62 = .ok (.getfield 107, 3) := by decide +kernel
theorem dX12_binds_65 : decode cX12_binds 65 = .ok (.aload_n 0, 1) := by decide +kernel
theorem dX12_binds_66 : decode cX12_binds 66 = .ok (.getfield 122, 3) := by decide +kernel
theorem dX12_binds_69 : decode cX12_binds 69 = .ok (.aload_n 0, 1) := by decide +kernel
theorem dX12_binds_70 : decode cX12_binds 70 = .ok (.getfield 285, 3) := by decide +kernel
theorem dX12_binds_73 : decode cX12_binds 73 = .ok (.iaload, 1) := by decide +kernel
theorem dX12_binds_74 : decode cX12_binds 74 = .ok (.aload_n 0, 1) := by decide +kernel
theorem dX12_binds_75 : decode cX12_binds 75 = .ok (.getfield 276, 3) := by decide +kernel
theorem dX12_binds_78 : decode cX12_binds 78 = .ok (.iastore, 1) := by decide +kernel
theorem dX12_binds_79 : decode cX12_binds 79 = .ok (.aload_n 0, 1) := by decide +kernel
theorem dX12_binds_80 : decode cX12_binds 80 = .ok (.iconst 0, 1) := by decide +kernel
theorem dX12_binds_81 : decode cX12_binds 81 = .ok (.iconst 1, 1) := by decide +kernel
theorem dX12_binds_82 : decode cX12_binds 82 = .ok (.iload_n 1, 1) := by decide +kernel
theorem dX12_binds_83 : decode cX12_binds 83 = .ok (.isub, 1) := by decide +kernel
theorem dX12_binds_84 : decode cX12_binds 84 = .ok (.iconst 0, 1) := by decide +kernel
theorem dX12_binds_85 : decode cX12_binds 85 = .ok (.invokevirtual 401, 3) := by decide +kernel
theorem dX12_binds_88 : decode cX12_binds 88 = .ok (.pop, 1) := by decide +kernel
theorem dX12_binds_89 : decode cX12_binds 89 = .ok (.aload_n 0, 1) := by decide +kernel
theorem dX12_binds_90 : decode cX12_binds 90 = .ok (.getfield 107, 3) := by decide +kernel
theorem dX12_binds_93 : decode cX12_binds 93 = .ok (.iload_n 2, 1) := by decide +kernel
theorem dX12_binds_94 : decode cX12_binds 94 = .ok (.aload_n 0, 1) := by decide +kernel
theorem dX12_binds_95 : decode cX12_binds 95 = .ok (.getfield 276, 3) := by decide +kernel
theorem dX12_binds_98 : decode cX12_binds 98 = .ok (.iastore, 1) := by decide +kernel
theorem dX12_binds_99 : decode cX12_binds 99 = .ok (.return_, 1) := by decide +kernel
theorem dX12_operand_0 : decode cX12_operand 0 = .ok (.aload_n 0, 1) := by decide +kernel
theorem dX12_operand_1 : decode cX12_operand 1 = .ok (.getfield 233, 3) := by decide +kernel
theorem dX12_operand_4 : decode cX12_operand 4 = .ok (.istore_n 1, 1) := by decide +kernel
theorem dX12_operand_5 : decode cX12_operand 5 = .ok (.aload_n 0, 1) := by decide +kernel
theorem dX12_operand_6 : decode cX12_operand 6 = .ok (.bipush 39, 2) := by decide +kernel
theorem dX12_operand_8 : decode cX12_operand 8 = .ok (.invokevirtual 257, 3) := by decide +kernel
theorem dX12_operand_11 : decode cX12_operand 11 = .ok (.ifCond .ne 21, 3) := by decide +kernel
theorem dX12_operand_14 : decode cX12_operand 14 = .ok (.aload_n 0, 1) := by decide +kernel
theorem dX12_operand_15 : decode cX12_operand 15 = .ok (.bipush 43, 2) := by decide +kernel
theorem dX12_operand_17 : decode cX12_operand 17 = .ok (.invokevirtual 257, 3) := by decide +kernel
theorem dX12_operand_20 : decode cX12_operand 20 = .ok (.ifCond .ne 12, 3) := by decide +kernel
theorem dX12_operand_23 : decode cX12_operand 23 = .ok (.aload_n 0, 1) := by decide +kernel
theorem dX12_operand_24 : decode cX12_operand 24 = .ok (.bipush 44, 2) := by decide +kernel
theorem dX12_operand_26 : decode cX12_operand 26 = .ok (.invokevirtual 257, 3) := by decide +kernel
theorem dX12_operand_29 : decode cX12_operand 29 = .ok (.ifCond .eq 16, 3) := by decide +kernel
theorem dX12_operand_32 : decode cX12_operand 32 = .ok (.aload_n 0, 1) := by decide +kernel
theorem dX12_operand_33 : decode cX12_operand 33 = .ok (.dup, 1) := by decide +kernel
theorem dX12_operand_34 : decode cX12_operand 34 = .ok (.getfield 233, 3) := by decide +kernel
theorem dX12_operand_37 : decode cX12_operand 37 = .ok (.iconst 1, 1) := by decide +kernel
theorem dX12_operand_38 : decode cX12_operand 38 = .ok (.iadd, 1) := by decide +kernel
theorem dX12_operand_39 : decode cX12_operand 39 = .ok (.putfield 233, 3) := by decide +kernel
theorem dX12_operand_42 : decode cX12_operand 42 = .ok (.goto (-37), 3) := by decide +kernel
theorem dX12_operand_45 : decode cX12_operand 45 = .ok (.aload_n 0, 1) := by decide +kernel
theorem dX12_operand_46 : decode cX12_operand 46 = .ok (.getfield 233, 3) := by decide +kernel
theorem dX12_operand_49 : decode cX12_operand 49 = .ok (.istore_n 2, 1) := by decide +kernel
theorem dX12_operand_50 : decode cX12_operand 50 = .ok (.aload_n 0, 1) := by decide +kernel
theorem dX12_operand_51 : decode cX12_operand 51 = .ok (.invokevirtual 475, 3) := by decide +kernel
theorem dX12_operand_54 : decode cX12_operand 54 = .ok (.ifCond .ne 5, 3) := by decide +kernel
theorem dX12_operand_57 : decode cX12_operand 57 = .ok (.iconst 0, 1) := by decide +kernel
theorem dX12_operand_58 : decode cX12_operand 58 = .ok (.ireturn, 1) := by decide +kernel
theorem dX12_operand_59 : decode cX12_operand 59 = .ok (.iload_n 2, 1) := by decide +kernel
theorem dX12_operand_60 : decode cX12_operand 60 = .ok (.iconst 1, 1) := by decide +kernel
theorem dX12_operand_61 : decode cX12_operand 61 = .ok (.isub, 1) := by decide +kernel
theorem dX12_operand_62 : decode cX12_operand 62 = .ok (.istore_n 3, 1) := by decide +kernel
theorem dX12_operand_63 : decode cX12_operand 63 = .ok (.iload_n 3, 1) := by decide +kernel
theorem dX12_operand_64 : decode cX12_operand 64 = .ok (.iload_n 1, 1) := by decide +kernel
theorem dX12_operand_65 : decode cX12_operand 65 = .ok (.if_icmp .lt 23, 3) := by decide +kernel
theorem dX12_operand_68 : decode cX12_operand 68 = .ok (.aload_n 0, 1) := by decide +kernel
theorem dX12_operand_69 : decode cX12_operand 69 = .ok (.bipush 11, 2) := by decide +kernel
theorem dX12_operand_71 : decode cX12_operand 71 = .ok (.aload_n 0, 1) := by decide +kernel
theorem dX12_operand_72 : decode cX12_operand 72 = .ok (.getfield 19, 3) := by decide +kernel
theorem dX12_operand_75 : decode cX12_operand 75 = .ok (.iload_n 3, 1) := by decide +kernel
theorem dX12_operand_76 : decode cX12_operand 76 = .ok (.iaload, 1) := by decide +kernel
theorem dX12_operand_77 : decode cX12_operand 77 = .ok (.iconst 0, 1) := by decide +kernel
theorem dX12_operand_78 : decode cX12_operand 78 = .ok (.invokevirtual 401, 3) := by decide +kernel
theorem dX12_operand_81 : decode cX12_operand 81 = .ok (.pop, 1) := by decide +kernel
theorem dX12_operand_82 : decode cX12_operand 82 = .ok (.iinc 3 (-1), 3) := by decide +kernel
theorem dX12_operand_85 : decode cX12_operand 85 = .ok (.goto (-22), 3) := by decide +kernel
theorem dX12_operand_88 : decode cX12_operand 88 = .ok (.iconst 1, 1) := by decide +kernel
theorem dX12_operand_89 : decode cX12_operand 89 = .ok (.ireturn, 1) := by decide +kernel
theorem dX12_plain_0 : decode cX12_plain 0 = .ok (.aload_n 0, 1) := by decide +kernel
theorem dX12_plain_1 : decode cX12_plain 1 = .ok (.getfield 16, 3) := by decide +kernel
theorem dX12_plain_4 : decode cX12_plain 4 = .ok (.aload_n 0, 1) := by decide +kernel
theorem dX12_plain_5 : decode cX12_plain 5 = .ok (.getfield 233, 3) := by decide +kernel
theorem dX12_plain_8 : decode cX12_plain 8 = .ok (.iaload, 1) := by decide +kernel
theorem dX12_plain_9 : decode cX12_plain 9 = .ok (.iconst 3, 1) := by decide +kernel
theorem dX12_plain_10 : decode cX12_plain 10 = .ok (.if_icmp .ne 31, 3) := by decide +kernel
theorem dX12_plain_13 : decode cX12_plain 13 = .ok (.aload_n 0, 1) := by decide +kernel
theorem dX12_plain_14 : decode cX12_plain 14 = .ok (.iconst 0, 1) := by decide +kernel
theorem dX12_plain_15 : decode cX12_plain 15 = .ok (.aload_n 0, 1) := by decide +kernel
theorem dX12_plain_16 : decode cX12_plain 16 = .ok (.getfield 19, 3) := by decide +kernel
theorem dX12_plain_19 : decode cX12_plain 19 = .ok (.aload_n 0, 1) := by decide +kernel
theorem dX12_plain_20 : decode cX12_plain 20 = .ok (.getfield 233, 3) := by decide +kernel
theorem dX12_plain_23 : decode cX12_plain 23 = .ok (.iaload, 1) := by decide +kernel
theorem dX12_plain_24 : decode cX12_plain 24 = .ok (.iconst 0, 1) := by decide +kernel
theorem dX12_plain_25 : decode cX12_plain 25 = .ok (.invokevirtual 401, 3) := by decide +kernel
theorem dX12_plain_28 : decode cX12_plain 28 = .ok (.pop, 1) := by decide +kernel
theorem dX12_plain_29 : decode cX12_plain 29 = .ok (.aload_n 0, 1) := by decide +kernel
theorem dX12_plain_30 : decode cX12_plain 30 = .ok (.dup, 1) := by decide +kernel
theorem dX12_plain_31 : decode cX12_plain 31 = .ok (.getfield 233, 3) := by decide +kernel
theorem dX12_plain_34 : decode cX12_plain 34 = .ok (.iconst 1, 1) := by decide +kernel
theorem dX12_plain_35 : decode cX12_plain 35 = .ok (.iadd, 1) := by decide +kernel
theorem dX12_plain_36 : decode cX12_plain 36 = .ok (.putfield 233, 3) := by decide +kernel
theorem dX12_plain_39 : decode cX12_plain 39 = .ok (.iconst 1, 1) := by decide +kernel
theorem dX12_plain_40 : decode cX12_plain 40 = .ok (.ireturn, 1) := by decide +kernel
theorem dX12_plain_41 : decode cX12_plain 41 = .ok (.aload_n 0, 1) := by decide +kernel
theorem dX12_plain_42 : decode cX12_plain 42 = .ok (.bipush 22, 2) := by decide +kernel
theorem dX12_plain_44 : decode cX12_plain 44 = .ok (.invokevirtual 257, 3) := by decide +kernel
theorem dX12_plain_47 : decode cX12_plain 47 = .ok (.ifCond .eq 32, 3) := by decide +kernel
theorem dX12_plain_50 : decode cX12_plain 50 = .ok (.aload_n 0, 1) := by decide +kernel
theorem dX12_plain_51 : decode cX12_plain 51 = .ok (.invokevirtual 269, 3) := by decide +kernel
theorem dX12_plain_54 : decode cX12_plain 54 = .ok (.ifCond .eq 23, 3) := by decide +kernel
theorem dX12_plain_57 : decode cX12_plain 57 = .ok (.aload_n 0, 1) := by decide +kernel
theorem dX12_plain_58 : decode cX12_plain 58 = .ok (.invokevirtual 368, 3) := by decide +kernel
theorem dX12_plain_61 : decode cX12_plain 61 = .ok (.ifCond .eq 16, 3) := by decide +kernel
theorem dX12_plain_64 : decode cX12_plain 64 = .ok (.aload_n 0, 1) := by decide +kernel
theorem dX12_plain_65 : decode cX12_plain 65 = .ok (.bipush 23, 2) := by decide +kernel
theorem dX12_plain_67 : decode cX12_plain 67 = .ok (.invokevirtual 362, 3) := by decide +kernel
theorem dX12_plain_70 : decode cX12_plain 70 = .ok (.ifCond .eq 7, 3) := by decide +kernel
theorem dX12_plain_73 : decode cX12_plain 73 = .ok (.iconst 1, 1) := by decide +kernel
theorem dX12_plain_74 : decode cX12_plain 74 = .ok (.goto 4, 3) := by decide +kernel
theorem dX12_plain_77 : decode cX12_plain 77 = .ok (.iconst 0, 1) := by decide +kernel
theorem dX12_plain_78 : decode cX12_plain 78 = .ok (.ireturn, 1) := by decide +kernel
theorem dX12_plain_79 : decode cX12_plain 79 = .ok (.aload_n 0, 1) := by decide +kernel
theorem dX12_plain_80 : decode cX12_plain 80 = .ok (.bipush 13, 2) := by decide +kernel
theorem dX12_plain_82 : decode cX12_plain 82 = .ok (.invokevirtual 263, 3) := by decide +kernel
theorem dX12_plain_85 : decode cX12_plain 85 = .ok (.ifCond .eq 71, 3) := by decide +kernel
theorem dX12_plain_88 : decode cX12_plain 88 = .ok (.aload_n 0, 1) := by decide +kernel
theorem dX12_plain_89 : decode cX12_plain 89 = .ok (.getfield 365, 3) := by decide +kernel
theorem dX12_plain_92 : decode cX12_plain 92 = .ok (.ifCond .eq 23, 3) := by decide +kernel
theorem dX12_plain_95 : decode cX12_plain 95 = .ok (.aload_n 0, 1) := by decide +kernel
theorem dX12_plain_96 : decode cX12_plain 96 = .ok (.bipush 10, 2) := by decide +kernel
theorem dX12_plain_98 : decode cX12_plain 98 = .ok (.aload_n 0, 1) := by decide +kernel
theorem dX12_plain_99 : decode cX12_plain 99 = .ok (.getfield 22, 3) := by decide +kernel
theorem dX12_plain_102 : decode cX12_plain 102 = .ok (.aload_n 0, 1) := by decide +kernel
theorem dX12_plain_103 : decode cX12_plain 103 = .ok (.getfield 233, 3) := by decide +kernel
theorem dX12_plain_106 : decode cX12_plain 106 = .ok (.iaload, 1) := by decide +kernel
theorem dX12_plain_107 : decode cX12_plain 107 = .ok (.invokevirtual 352, 3) := by decide +kernel
theorem dX12_plain_110 : decode cX12_plain 110 = .ok (.aload_n 0, 1) := by decide +kernel
theorem dX12_plain_111 : decode cX12_plain 111 = .ok (.iconst 1, 1) := by decide +kernel
theorem dX12_plain_112 : decode cX12_plain 112 = .ok (.putfield 345, 3) := by decide +kernel
theorem dX12_plain_115 : decode cX12_plain 115 = .ok (.aload_n 0, 1) := by decide +kernel
theorem dX12_plain_116 : decode cX12_plain 116 = .ok (.dup, 1) := by decide +kernel
theorem dX12_plain_117 : decode cX12_plain 117 = .ok (.getfield 233, 3) := by decide +kernel
theorem dX12_plain_120 : decode cX12_plain 120 = .ok (.iconst 1, 1) := by decide +kernel
theorem dX12_plain_121 : decode cX12_plain 121 = .ok (.iadd, 1) := by decide +kernel
theorem dX12_plain_122 : decode cX12_plain 122 = .ok (.putfield 233, 3) := by decide +kernel
theorem dX12_plain_125 : decode cX12_plain 125 = .ok (.aload_n 0, 1) := by decide +kernel
theorem dX12_plain_126 : decode cX12_plain 126 = .ok (.bipush 22, 2) := by decide +kernel
theorem dX12_plain_128 : decode cX12_plain 128 = .ok (.invokevirtual 356, 3) := by decide +kernel
theorem dX12_plain_131 : decode cX12_plain 131 = .ok (.ifCond .eq 12, 3) := by decide +kernel
theorem dX12_plain_134 : decode cX12_plain 134 = .ok (.aload_n 0, 1) := by decide +kernel
theorem dX12_plain_135 : decode cX12_plain 135 = .ok (.bipush 23, 2) := by decide +kernel
theorem dX12_plain_137 : decode cX12_plain 137 = .ok (.invokevirtual 362, 3) := by decide +kernel
theorem dX12_plain_140 : decode cX12_plain 140 = .ok (.ifCond .ne 5, 3) := by decide +kernel
theorem dX12_plain_143 : decode cX12_plain 143 = .ok (.iconst 0, 1) := by decide +kernel
theorem dX12_plain_144 : decode cX12_plain 144 = .ok (.ireturn, 1) := by decide +kernel
theorem dX12_plain_145 : decode cX12_plain 145 = .ok (.aload_n 0, 1) := by decide +kernel
theorem dX12_plain_146 : decode cX12_plain 146 = .ok (.bipush 21, 2) := by decide +kernel
theorem dX12_plain_148 : decode cX12_plain 148 = .ok (.iconst 0, 1) := by decide +kernel
theorem dX12_plain_149 : decode cX12_plain 149 = .ok (.iconst 0, 1) := by decide +kernel
theorem dX12_plain_150 : decode cX12_plain 150 = .ok (.invokevirtual 401, 3) := by decide +kernel
theorem dX12_plain_153 : decode cX12_plain 153 = .ok (.pop, 1) := by decide +kernel
theorem dX12_plain_154 : decode cX12_plain 154 = .ok (.iconst 1, 1) := by decide +kernel
theorem dX12_plain_155 : decode cX12_plain 155 = .ok (.ireturn, 1) := by decide +kernel
theorem dX12_plain_156 : decode cX12_plain 156 = .ok (.aload_n 0, 1) := by decide +kernel
theorem dX12_plain_157 : decode cX12_plain 157 = .ok (.getfield 16, 3) := by decide +kernel
theorem dX12_plain_160 : decode cX12_plain 160 = .ok (.aload_n 0, 1) := by decide +kernel
theorem dX12_plain_161 : decode cX12_plain 161 = .ok (.getfield 233, 3) := by decide +kernel
theorem dX12_plain_164 : decode cX12_plain 164 = .ok (.iaload, 1) := by decide +kernel
theorem dX12_plain_165 : decode cX12_plain 165 = .ok (.iconst 1, 1) := by decide +kernel
theorem dX12_plain_166 : decode cX12_plain 166 = .ok (.if_icmp .eq 9, 3) := by decide +kernel
theorem dX12_plain_169 : decode cX12_plain 169 = .ok (.aload_n 0, 1) := by decide +kernel
theorem dX12_plain_170 : decode cX12_plain 170 = .ok (.iconst 2, 1) := by decide +kernel
theorem dX12_plain_171 : decode cX12_plain 171 = .ok (.invokevirtual 260, 3) := by decide +kernel
theorem dX12_plain_174 : decode cX12_plain 174 = .ok (.ireturn, 1) := by decide +kernel
theorem dX12_plain_175 : decode cX12_plain 175 = .ok (.aload_n 0, 1) := by decide +kernel
theorem dX12_plain_176 : decode cX12_plain 176 = .ok (.getfield 233, 3) := by decide +kernel
theorem dX12_plain_179 : decode cX12_plain 179 = .ok (.istore_n 1, 1) := by decide +kernel
theorem dX12_plain_180 : decode cX12_plain 180 = .ok (.aload_n 0, 1) := by decide +kernel
theorem dX12_plain_181 : decode cX12_plain 181 = .ok (.dup, 1) := by decide +kernel
theorem dX12_plain_182 : decode cX12_plain 182 = .ok (.getfield 233, 3) := by decide +kernel
theorem dX12_plain_185 : decode cX12_plain 185 = .ok (.iconst 1, 1) := by decide +kernel
theorem dX12_plain_186 : decode cX12_plain 186 = .ok (.iadd, 1) := by decide +kernel
theorem dX12_plain_187 : decode cX12_plain 187 = .ok (.putfield 233, 3) := by decide +kernel
theorem dX12_plain_190 : decode cX12_plain 190 = .ok (.aload_n 0, 1) := by decide +kernel
theorem dX12_plain_191 : decode cX12_plain 191 = .ok (.getfield 365, 3) := by decide +kernel
theorem dX12_plain_194 : decode cX12_plain 194 = .ok (.ifCond .eq 11, 3) := by decide +kernel
theorem dX12_plain_197 : decode cX12_plain 197 = .ok (.aload_n 0, 1) := by decide +kernel
theorem dX12_plain_198 : decode cX12_plain 198 = .ok (.iload_n 1, 1) := by decide +kernel
theorem dX12_plain_199 : decode cX12_plain 199 = .ok (.invokevirtual 478, 3) := by decide +kernel
theorem dX12_plain_202 : decode cX12_plain 202 = .ok (.goto 8, 3) := by decide +kernel
theorem dX12_plain_205 : decode cX12_plain 205 = .ok (.aload_n 0, 1) := by decide +kernel
theorem dX12_plain_206 : decode cX12_plain 206 = .ok (.iload_n 1, 1) := by decide +kernel
theorem dX12_plain_207 : decode cX12_plain 207 = .ok (.invokevirtual 481, 3) := by decide +kernel
theorem dX12_plain_210 : decode cX12_plain 210 = .ok (.ireturn, 1) := by decide +kernel
theorem dX12_inConstant_0 : decode cX12_inConstant 0 = .ok (.aload_n 0, 1) := by decide +kernel
theorem dX12_inConstant_1 : decode cX12_inConstant 1 = .ok (.getfield 245, 3) := by decide +kernel
theorem dX12_inConstant_4 : decode cX12_inConstant 4 = .ok (.ifCond .ne 7, 3) := by decide +kernel
theorem dX12_inConstant_7 : decode cX12_inConstant 7 = .ok (.iconst (-1), 1) := by decide +kernel
theorem dX12_inConstant_8 : decode cX12_inConstant 8 = .ok (.goto 8, 3) := by decide +kernel
theorem dX12_inConstant_11 : decode cX12_inConstant 11 = .ok (.aload_n 0, 1) := by decide +kernel
theorem dX12_inConstant_12 : decode cX12_inConstant 12 = .ok (.iload_n 1, 1) := by decide +kernel
theorem dX12_inConstant_13 : decode cX12_inConstant 13 = .ok (.invokevirtual 457, 3) := by decide +kernel
theorem dX12_inConstant_16 : decode cX12_inConstant 16 = .ok (.istore_n 2, 1) := by decide +kernel
theorem dX12_inConstant_17 : decode cX12_inConstant 17 = .ok (.iload_n 2, 1) := by decide +kernel
theorem dX12_inConstant_18 : decode cX12_inConstant 18 = .ok (.iconst (-1), 1) := by decide +kernel
theorem dX12_inConstant_19 : decode cX12_inConstant 19 = .ok (.if_icmp .ne 15, 3) := by decide +kernel
theorem dX12_inConstant_22 : decode cX12_inConstant 22 = .ok (.aload_n 0, 1) := by decide +kernel
theorem dX12_inConstant_23 : decode cX12_inConstant 23 = .ok (.getfield 374, 3) := by decide +kernel
theorem dX12_inConstant_26 : decode cX12_inConstant 26 = .ok (.iconst (-1), 1) := by decide +kernel
theorem dX12_inConstant_27 : decode cX12_inConstant 27 = .ok (.if_icmp .ne 7, 3) := by decide +kernel
theorem dX12_inConstant_30 : decode cX12_inConstant 30 = .ok (.iconst 1, 1) := by decide +kernel
theorem dX12_inConstant_31 : decode cX12_inConstant 31 = .ok (.goto 4, 3) := by decide +kernel
theorem dX12_inConstant_34 : decode cX12_inConstant 34 = .ok (.iconst 0, 1) := by decide +kernel
theorem dX12_inConstant_35 : decode cX12_inConstant 35 = .ok (.istore_n 3, 1) := by decide +kernel
theorem dX12_inConstant_36 : decode cX12_inConstant 36 = .ok (.aload_n 0, 1) := by decide +kernel
theorem dX12_inConstant_37 : decode cX12_inConstant 37 = .ok (.bipush 24, 2) := by decide +kernel
theorem dX12_inConstant_39 : decode cX12_inConstant 39 = .ok (.invokevirtual 257, 3) := by decide +kernel
theorem dX12_inConstant_42 : decode cX12_inConstant 42 = .ok (.ifCond .ne 12, 3) := by decide +kernel
theorem dX12_inConstant_45 : decode cX12_inConstant 45 = .ok (.aload_n 0, 1) := by decide +kernel
theorem dX12_inConstant_46 : decode cX12_inConstant 46 = .ok (.bipush 22, 2) := by decide +kernel
theorem dX12_inConstant_48 : decode cX12_inConstant 48 = .ok (.invokevirtual 257, 3) := by decide +kernel
theorem dX12_inConstant_51 : decode cX12_inConstant 51 = .ok (.ifCond .eq 7, 3) := by decide +kernel
theorem dX12_inConstant_54 : decode cX12_inConstant 54 = .ok (.iconst 1, 1) := by decide +kernel
theorem dX12_inConstant_55 : decode cX12_inConstant 55 = .ok (.goto 4, 3) := by decide +kernel
theorem dX12_inConstant_58 : decode cX12_inConstant 58 = .ok (.iconst 0, 1) := by decide +kernel
theorem dX12_inConstant_59 : decode cX12_inConstant 59 = .ok (.istore 4, 2) := by decide +kernel
theorem dX12_inConstant_61 : decode cX12_inConstant 61 = .ok (.iload_n 2, 1) := by decide +kernel
theorem dX12_inConstant_62 : decode cX12_inConstant 62 = .ok (.iconst (-1), 1) := by decide +kernel
theorem dX12_inConstant_63 : decode cX12_inConstant 63 = .ok (.if_icmp .eq 16, 3) := by decide +kernel
theorem dX12_inConstant_66 : decode cX12_inConstant 66 = .ok (.aload_n 0, 1) := by decide +kernel
theorem dX12_inConstant_67 : decode cX12_inConstant 67 = .ok (.getfield 40, 3) := by decide +kernel
theorem dX12_inConstant_70 : decode cX12_inConstant 70 = .ok (.iload_n 2, 1) := by decide +kernel
theorem dX12_inConstant_71 : decode cX12_inConstant 71 = .ok (.iaload, 1) := by decide +kernel
theorem dX12_inConstant_72 : decode cX12_inConstant 72 = .ok (.ifCond .ne 7, 3) := by decide +kernel
theorem dX12_inConstant_75 : decode cX12_inConstant 75 = .ok (.iconst 1, 1) := by decide +kernel
theorem dX12_inConstant_76 : decode cX12_inConstant 76 = .ok (.goto 4, 3) := by decide +kernel
theorem dX12_inConstant_79 : decode cX12_inConstant 79 = .ok (.iconst 0, 1) := by decide +kernel
theorem dX12_inConstant_80 : decode cX12_inConstant 80 = .ok (.istore 5, 2) := by decide +kernel
theorem dX12_inConstant_82 : decode cX12_inConstant 82 = .ok (.aload_n 0, 1) := by decide +kernel
theorem dX12_inConstant_83 : decode cX12_inConstant 83 = .ok (.getfield 245, 3) := by decide +kernel
theorem dX12_inConstant_86 : decode cX12_inConstant 86 = .ok (.ifCond .le 18, 3) := by decide +kernel
theorem dX12_inConstant_89 : decode cX12_inConstant 89 = .ok (.iload_n 3, 1) := by decide +kernel
theorem dX12_inConstant_90 : decode cX12_inConstant 90 = .ok (.ifCond .eq 14, 3) := by decide +kernel
theorem dX12_inConstant_93 : decode cX12_inConstant 93 = .ok (.aload_n 0, 1) := by decide +kernel
theorem dX12_inConstant_94 : decode cX12_inConstant 94 = .ok (.iconst 4, 1) := by decide +kernel
theorem dX12_inConstant_95 : decode cX12_inConstant 95 = .ok (.aload_n 0, 1) := by decide +kernel
theorem dX12_inConstant_96 : decode cX12_inConstant 96 = .ok (.getfield 22, 3) := by decide +kernel
theorem dX12_inConstant_99 : decode cX12_inConstant 99 = .ok (.iload_n 1, 1) := by decide +kernel
theorem dX12_inConstant_100 : decode cX12_inConstant 100 = .ok (.iaload, 1) := by decide +kernel
theorem dX12_inConstant_101 : decode cX12_inConstant 101 = .ok (.invokevirtual 352, 3) := by decide +kernel
theorem dX12_inConstant_104 : decode cX12_inConstant 104 = .ok (.aload_n 0, 1) := by decide +kernel
theorem dX12_inConstant_105 : decode cX12_inConstant 105 = .ok (.getfield 245, 3) := by decide +kernel
theorem dX12_inConstant_108 : decode cX12_inConstant 108 = .ok (.ifCond .le 29, 3) := by decide +kernel
theorem dX12_inConstant_111 : decode cX12_inConstant 111 = .ok (.iload_n 3, 1) := by decide +kernel
theorem dX12_inConstant_112 : decode cX12_inConstant 112 = .ok (.ifCond .ne 25, 3) := by decide +kernel
theorem dX12_inConstant_115 : decode cX12_inConstant 115 = .ok (.iload 5, 2) := by decide +kernel
theorem dX12_inConstant_117 : decode cX12_inConstant 117 = .ok (.ifCond .eq 8, 3) := by decide +kernel
theorem dX12_inConstant_120 : decode cX12_inConstant 120 = .ok (.iload 4, 2) := by decide +kernel
theorem dX12_inConstant_122 : decode cX12_inConstant 122 = .ok (.ifCond .eq 15, 3) := by decide +kernel
theorem dX12_inConstant_125 : decode cX12_inConstant 125 = .ok (.aload_n 0, 1) := by decide +kernel
theorem dX12_inConstant_126 : decode cX12_inConstant 126 = .ok (.bipush 10, 2) := by decide +kernel
theorem dX12_inConstant_128 : decode cX12_inConstant 128 = .ok (.aload_n 0, 1) := by decide +kernel
theorem dX12_inConstant_129 : decode cX12_inConstant 129 = .ok (.getfield 22, 3) := by decide +kernel
theorem dX12_inConstant_132 : decode cX12_inConstant 132 = .ok (.iload_n 1, 1) := by decide +kernel
theorem dX12_inConstant_133 : decode cX12_inConstant 133 = .ok (.iaload, 1) := by decide +kernel
theorem dX12_inConstant_134 : decode cX12_inConstant 134 = .ok (.invokevirtual 352, 3) := by decide +kernel
theorem dX12_inConstant_137 : decode cX12_inConstant 137 = .ok (.iload 5, 2) := by decide +kernel
theorem dX12_inConstant_139 : decode cX12_inConstant 139 = .ok (.ifCond .eq 18, 3) := by decide +kernel
theorem dX12_inConstant_142 : decode cX12_inConstant 142 = .ok (.iload 4, 2) := by decide +kernel
theorem dX12_inConstant_144 : decode cX12_inConstant 144 = .ok (.ifCond .ne 13, 3) := by decide +kernel
theorem dX12_inConstant_147 : decode cX12_inConstant 147 = .ok (.aload_n 0, 1) := by decide +kernel
theorem dX12_inConstant_148 : decode cX12_inConstant 148 = .ok (.getfield 52, 3) := by decide +kernel
theorem dX12_inConstant_151 : decode cX12_inConstant 151 = .ok (.iload_n 2, 1) := by decide +kernel
theorem dX12_inConstant_152 : decode cX12_inConstant 152 = .ok (.iaload, 1) := by decide +kernel
theorem dX12_inConstant_153 : decode cX12_inConstant 153 = .ok (.iconst (-1), 1) := by decide +kernel
theorem dX12_inConstant_154 : decode cX12_inConstant 154 = .ok (.if_icmp .ne 8, 3) := by decide +kernel
theorem dX12_inConstant_157 : decode cX12_inConstant 157 = .ok (.aload_n 0, 1) := by decide +kernel
theorem dX12_inConstant_158 : decode cX12_inConstant 158 = .ok (.iconst 1, 1) := by decide +kernel
theorem dX12_inConstant_159 : decode cX12_inConstant 159 = .ok (.putfield 345, 3) := by decide +kernel
theorem dX12_inConstant_162 : decode cX12_inConstant 162 = .ok (.aload_n 0, 1) := by decide +kernel
theorem dX12_inConstant_163 : decode cX12_inConstant 163 = .ok (.bipush 22, 2) := by decide +kernel
theorem dX12_inConstant_165 : decode cX12_inConstant 165 = .ok (.invokevirtual 257, 3) := by decide +kernel
theorem dX12_inConstant_168 : decode cX12_inConstant 168 = .ok (.ifCond .eq 14, 3) := by decide +kernel
theorem dX12_inConstant_171 : decode cX12_inConstant 171 = .ok (.aload_n 0, 1) := by decide +kernel
theorem dX12_inConstant_172 : decode cX12_inConstant 172 = .ok (.iload_n 1, 1) := by decide +kernel
theorem dX12_inConstant_173 : decode cX12_inConstant 173 = .ok (.iconst 0, 1) := by decide +kernel
theorem dX12_inConstant_174 : decode cX12_inConstant 174 = .ok (.invokevirtual 454, 3) := by decide +kernel
theorem dX12_inConstant_177 : decode cX12_inConstant 177 = .ok (.ifCond .ne 5, 3) := by decide +kernel
theorem dX12_inConstant_180 : decode cX12_inConstant 180 = .ok (.iconst 0, 1) := by decide +kernel
theorem dX12_inConstant_181 : decode cX12_inConstant 181 = .ok (.ireturn, 1) := by decide +kernel
theorem dX12_inConstant_182 : decode cX12_inConstant 182 = .ok (.aload_n 0, 1) := by decide +kernel
theorem dX12_inConstant_183 : decode cX12_inConstant 183 = .ok (.bipush 24, 2) := by decide +kernel
theorem dX12_inConstant_185 : decode cX12_inConstant 185 = .ok (.invokevirtual 257, 3) := by decide +kernel
theorem dX12_inConstant_188 : decode cX12_inConstant 188 = .ok (.ifCond .eq 33, 3) := by decide +kernel
theorem dX12_inConstant_191 : decode cX12_inConstant 191 = .ok (.iload 4, 2) := by decide +kernel
theorem dX12_inConstant_193 : decode cX12_inConstant 193 = .ok (.ifCond .eq 28, 3) := by decide +kernel
theorem dX12_inConstant_196 : decode cX12_inConstant 196 = .ok (.aload_n 0, 1) := by decide +kernel
theorem dX12_inConstant_197 : decode cX12_inConstant 197 = .ok (.getfield 16, 3) := by decide +kernel
theorem dX12_inConstant_200 : decode cX12_inConstant 200 = .ok (.aload_n 0, 1) := by decide +kernel
theorem dX12_inConstant_201 : decode cX12_inConstant 201 = .ok (.getfield 233, 3) := by decide +kernel
theorem dX12_inConstant_204 : decode cX12_inConstant 204 = .ok (.iconst 1, 1) := by decide +kernel
theorem dX12_inConstant_205 : decode cX12_inConstant 205 = .ok (.isub, 1) := by decide +kernel
theorem dX12_inConstant_206 : decode cX12_inConstant 206 = .ok (.iaload, 1) := by decide +kernel
theorem dX12_inConstant_207 : decode cX12_inConstant 207 = .ok (.iconst 1, 1) := by decide +kernel
theorem dX12_inConstant_208 : decode cX12_inConstant 208 = .ok (.if_icmp .ne 13, 3) := by decide +kernel
theorem dX12_inConstant_211 : decode cX12_inConstant 211 = .ok (.aload_n 0, 1) := by decide +kernel
theorem dX12_inConstant_212 : decode cX12_inConstant 212 = .ok (.iconst (-1), 1) := by decide +kernel
theorem dX12_inConstant_213 : decode cX12_inConstant 213 = .ok (.invokevirtual 460, 3) := by decide +kernel
theorem dX12_inConstant_216 : decode cX12_inConstant 216 = .ok (.ifCond .ne 5, 3) := by decide +kernel
theorem dX12_inConstant_219 : decode cX12_inConstant 219 = .ok (.iconst 0, 1) := by decide +kernel
theorem dX12_inConstant_220 : decode cX12_inConstant 220 = .ok (.ireturn, 1) := by decide +kernel
theorem dX12_inConstant_221 : decode cX12_inConstant 221 = .ok (.iload 4, 2) := by decide +kernel
theorem dX12_inConstant_223 : decode cX12_inConstant 223 = .ok (.ifCond .ne 25, 3) := by decide +kernel
theorem dX12_inConstant_226 : decode cX12_inConstant 226 = .ok (.aload_n 0, 1) := by decide +kernel
theorem dX12_inConstant_227 : decode cX12_inConstant 227 = .ok (.iconst 0, 1) := by decide +kernel
theorem dX12_inConstant_228 : decode cX12_inConstant 228 = .ok (.iload 5, 2) := by decide +kernel
theorem dX12_inConstant_230 : decode cX12_inConstant 230 = .ok (.ifCond .eq 12, 3) := by decide +kernel
theorem dX12_inConstant_233 : decode cX12_inConstant 233 = .ok (.aload_n 0, 1) := by decide +kernel
theorem dX12_inConstant_234 : decode cX12_inConstant 234 = .ok (.getfield 49, 3) := by decide +kernel
theorem dX12_inConstant_237 : decode cX12_inConstant 237 = .ok (.iload_n 2, 1) := by decide +kernel
theorem dX12_inConstant_238 : decode cX12_inConstant 238 = .ok (.iaload, 1) := by decide +kernel
theorem dX12_inConstant_239 : decode cX12_inConstant 239 = .ok (.goto 4, 3) := by decide +kernel
theorem dX12_inConstant_242 : decode cX12_inConstant 242 = .ok (.iconst 0, 1) := by decide +kernel
theorem dX12_inConstant_243 : decode cX12_inConstant 243 = .ok (.iconst 0, 1) := by decide +kernel
theorem dX12_inConstant_244 : decode cX12_inConstant 244 = .ok (.invokevirtual 401, 3) := by decide +kernel
theorem dX12_inConstant_247 : decode cX12_inConstant 247 = .ok (.pop, 1) := by decide +kernel
theorem dX12_inConstant_248 : decode cX12_inConstant 248 = .ok (.iconst 1, 1) := by decide +kernel
theorem dX12_inConstant_249 : decode cX12_inConstant 249 = .ok (.ireturn, 1) := by decide +kernel
theorem dX12_named_0 : decode cX12_named 0 = .ok (.aload_n 0, 1) := by decide +kernel
theorem dX12_named_1 : decode cX12_named 1 = .ok (.bipush 22, 2) := by decide +kernel
theorem dX12_named_3 : decode cX12_named 3 = .ok (.invokevirtual 257, 3) := by decide +kernel
theorem dX12_named_6 : decode cX12_named 6 = .ok (.ifCond .eq 10, 3) := by decide +kernel
theorem dX12_named_9 : decode cX12_named 9 = .ok (.aload_n 0, 1) := by decide +kernel
theorem dX12_named_10 : decode cX12_named 10 = .ok (.iload_n 1, 1) := by decide +kernel
theorem dX12_named_11 : decode cX12_named 11 = .ok (.iconst 1, 1) := by decide +kernel
theorem dX12_named_12 : decode cX12_named 12 = .ok (.invokevirtual 454, 3) := by decide +kernel
theorem dX12_named_15 : decode cX12_named 15 = .ok (.ireturn, 1) := by decide +kernel
theorem dX12_named_16 : decode cX12_named 16 = .ok (.aload_n 0, 1) := by decide +kernel
theorem dX12_named_17 : decode cX12_named 17 = .ok (.getfield 245, 3) := by decide +kernel
theorem dX12_named_20 : decode cX12_named 20 = .ok (.ifCond .ne 7, 3) := by decide +kernel
theorem dX12_named_23 : decode cX12_named 23 = .ok (.iconst (-1), 1) := by decide +kernel
theorem dX12_named_24 : decode cX12_named 24 = .ok (.goto 8, 3) := by decide +kernel
theorem dX12_named_27 : decode cX12_named 27 = .ok (.aload_n 0, 1) := by decide +kernel
theorem dX12_named_28 : decode cX12_named 28 = .ok (.iload_n 1, 1) := by decide +kernel
theorem dX12_named_29 : decode cX12_named 29 = .ok (.invokevirtual 457, 3) := by decide +kernel
theorem dX12_named_32 : decode cX12_named 32 = .ok (.istore_n 2, 1) := by decide +kernel
theorem dX12_named_33 : decode cX12_named 33 = .ok (.iload_n 2, 1) := by decide +kernel
theorem dX12_named_34 : decode cX12_named 34 = .ok (.iconst (-1), 1) := by decide +kernel
theorem dX12_named_35 : decode cX12_named 35 = .ok (.if_icmp .ne 15, 3) := by decide +kernel
theorem dX12_named_38 : decode cX12_named 38 = .ok (.aload_n 0, 1) := by decide +kernel
theorem dX12_named_39 : decode cX12_named 39 = .ok (.getfield 374, 3) := by decide +kernel
theorem dX12_named_42 : decode cX12_named 42 = .ok (.iconst (-1), 1) := by decide +kernel
theorem dX12_named_43 : decode cX12_named 43 = .ok (.if_icmp .ne 7, 3) := by decide +kernel
theorem dX12_named_46 : decode cX12_named 46 = .ok (.iconst 1, 1) := by decide +kernel
theorem dX12_named_47 : decode cX12_named 47 = .ok (.goto 4, 3) := by decide +kernel
theorem dX12_named_50 : decode cX12_named 50 = .ok (.iconst 0, 1) := by decide +kernel
theorem dX12_named_51 : decode cX12_named 51 = .ok (.istore_n 3, 1) := by decide +kernel
theorem dX12_named_52 : decode cX12_named 52 = .ok (.aload_n 0, 1) := by decide +kernel
theorem dX12_named_53 : decode cX12_named 53 = .ok (.bipush 24, 2) := by decide +kernel
theorem dX12_named_55 : decode cX12_named 55 = .ok (.invokevirtual 257, 3) := by decide +kernel
theorem dX12_named_58 : decode cX12_named 58 = .ok (.istore 4, 2) := by decide +kernel
theorem dX12_named_60 : decode cX12_named 60 = .ok (.iload_n 3, 1) := by decide +kernel
theorem dX12_named_61 : decode cX12_named 61 = .ok (.ifCond .eq 17, 3) := by decide +kernel
theorem dX12_named_64 : decode cX12_named 64 = .ok (.aload_n 0, 1) := by decide +kernel
theorem dX12_named_65 : decode cX12_named 65 = .ok (.iconst 4, 1) := by decide +kernel
theorem dX12_named_66 : decode cX12_named 66 = .ok (.aload_n 0, 1) := by decide +kernel
theorem dX12_named_67 : decode cX12_named 67 = .ok (.getfield 22, 3) := by decide +kernel
theorem dX12_named_70 : decode cX12_named 70 = .ok (.iload_n 1, 1) := by decide +kernel
theorem dX12_named_71 : decode cX12_named 71 = .ok (.iaload, 1) := by decide +kernel
theorem dX12_named_72 : decode cX12_named 72 = .ok (.invokevirtual 352, 3) := by decide +kernel
theorem dX12_named_75 : decode cX12_named 75 = .ok (.goto 40, 3) := by decide +kernel
theorem dX12_named_78 : decode cX12_named 78 = .ok (.iload_n 2, 1) := by decide +kernel
theorem dX12_named_79 : decode cX12_named 79 = .ok (.iconst (-1), 1) := by decide +kernel
theorem dX12_named_80 : decode cX12_named 80 = .ok (.if_icmp .eq 23, 3) := by decide +kernel
theorem dX12_named_83 : decode cX12_named 83 = .ok (.iload 4, 2) := by decide +kernel
theorem dX12_named_85 : decode cX12_named 85 = .ok (.aload_n 0, 1) := by decide +kernel
theorem dX12_named_86 : decode cX12_named 86 = .ok (.getfield 40, 3) := by decide +kernel
theorem dX12_named_89 : decode cX12_named 89 = .ok (.iload_n 2, 1) := by decide +kernel
theorem dX12_named_90 : decode cX12_named 90 = .ok (.iaload, 1) := by decide +kernel
theorem dX12_named_91 : decode cX12_named 91 = .ok (.iconst 2, 1) := by decide +kernel
theorem dX12_named_92 : decode cX12_named 92 = .ok (.if_icmp .ne 7, 3) := by decide +kernel
theorem dX12_named_95 : decode cX12_named 95 = .ok (.iconst 1, 1) := by decide +kernel
theorem dX12_named_96 : decode cX12_named 96 = .ok (.goto 4, 3) := by decide +kernel
theorem dX12_named_99 : decode cX12_named 99 = .ok (.iconst 0, 1) := by decide +kernel
theorem dX12_named_100 : decode cX12_named 100 = .ok (.if_icmp .eq 15, 3) := by decide +kernel
theorem dX12_named_103 : decode cX12_named 103 = .ok (.aload_n 0, 1) := by decide +kernel
theorem dX12_named_104 : decode cX12_named 104 = .ok (.bipush 6, 2) := by decide +kernel
theorem dX12_named_106 : decode cX12_named 106 = .ok (.aload_n 0, 1) := by decide +kernel
theorem dX12_named_107 : decode cX12_named 107 = .ok (.getfield 22, 3) := by decide +kernel
theorem dX12_named_110 : decode cX12_named 110 = .ok (.iload_n 1, 1) := by decide +kernel
theorem dX12_named_111 : decode cX12_named 111 = .ok (.iaload, 1) := by decide +kernel
theorem dX12_named_112 : decode cX12_named 112 = .ok (.invokevirtual 352, 3) := by decide +kernel
theorem dX12_named_115 : decode cX12_named 115 = .ok (.iload 4, 2) := by decide +kernel
theorem dX12_named_117 : decode cX12_named 117 = .ok (.ifCond .eq 25, 3) := by decide +kernel
theorem dX12_named_120 : decode cX12_named 120 = .ok (.aload_n 0, 1) := by decide +kernel
theorem dX12_named_121 : decode cX12_named 121 = .ok (.iload_n 2, 1) := by decide +kernel
theorem dX12_named_122 : decode cX12_named 122 = .ok (.invokevirtual 460, 3) := by decide +kernel
theorem dX12_named_125 : decode cX12_named 125 = .ok (.ifCond .ne 5, 3) := by decide +kernel
theorem dX12_named_128 : decode cX12_named 128 = .ok (.iconst 0, 1) := by decide +kernel
theorem dX12_named_129 : decode cX12_named 129 = .ok (.ireturn, 1) := by decide +kernel
theorem dX12_named_130 : decode cX12_named 130 = .ok (.aload_n 0, 1) := by decide +kernel
theorem dX12_named_131 : decode cX12_named 131 = .ok (.bipush 7, 2) := by decide +kernel
theorem dX12_named_133 : decode cX12_named 133 = .ok (.iconst 0, 1) := by decide +kernel
theorem dX12_named_134 : decode cX12_named 134 = .ok (.iconst 0, 1) := by decide +kernel
theorem dX12_named_135 : decode cX12_named 135 = .ok (.invokevirtual 401, 3) := by decide +kernel
theorem dX12_named_138 : decode cX12_named 138 = .ok (.pop, 1) := by decide +kernel
theorem dX12_named_139 : decode cX12_named 139 = .ok (.goto 73, 3) := by decide +kernel
theorem dX12_named_142 : decode cX12_named 142 = .ok (.iload_n 2, 1) := by decide +kernel
theorem dX12_named_143 : decode cX12_named 143 = .ok (.iconst (-1), 1) := by decide +kernel
theorem dX12_named_144 : decode cX12_named 144 = .ok (.if_icmp .eq 28, 3) := by decide +kernel
theorem dX12_named_147 : decode cX12_named 147 = .ok (.aload_n 0, 1) := by decide +kernel
theorem dX12_named_148 : decode cX12_named 148 = .ok (.getfield 40, 3) := by decide +kernel
theorem dX12_named_151 : decode cX12_named 151 = .ok (.iload_n 2, 1) := by decide +kernel
theorem dX12_named_152 : decode cX12_named 152 = .ok (.iaload, 1) := by decide +kernel
theorem dX12_named_153 : decode cX12_named 153 = .ok (.ifCond .ne 19, 3) := by decide +kernel
theorem dX12_named_156 : decode cX12_named 156 = .ok (.aload_n 0, 1) := by decide +kernel
theorem dX12_named_157 : decode cX12_named 157 = .ok (.iconst 0, 1) := by decide +kernel
theorem dX12_named_158 : decode cX12_named 158 = .ok (.aload_n 0, 1) := by decide +kernel
theorem dX12_named_159 : decode cX12_named 159 = .ok (.getfield 49, 3) := by decide +kernel
theorem dX12_named_162 : decode cX12_named 162 = .ok (.iload_n 2, 1) := by decide +kernel
theorem dX12_named_163 : decode cX12_named 163 = .ok (.iaload, 1) := by decide +kernel
theorem dX12_named_164 : decode cX12_named 164 = .ok (.iconst 0, 1) := by decide +kernel
theorem dX12_named_165 : decode cX12_named 165 = .ok (.invokevirtual 401, 3) := by decide +kernel
theorem dX12_named_168 : decode cX12_named 168 = .ok (.pop, 1) := by decide +kernel
theorem dX12_named_169 : decode cX12_named 169 = .ok (.goto 43, 3) := by decide +kernel
theorem dX12_named_172 : decode cX12_named 172 = .ok (.aload_n 0, 1) := by decide +kernel
theorem dX12_named_173 : decode cX12_named 173 = .ok (.iload_n 2, 1) := by decide +kernel
theorem dX12_named_174 : decode cX12_named 174 = .ok (.iconst (-1), 1) := by decide +kernel
theorem dX12_named_175 : decode cX12_named 175 = .ok (.if_icmp .eq 16, 3) := by decide +kernel
theorem dX12_named_178 : decode cX12_named 178 = .ok (.aload_n 0, 1) := by decide +kernel
theorem dX12_named_179 : decode cX12_named 179 = .ok (.getfield 59, 3) := by decide +kernel
theorem dX12_named_182 : decode cX12_named 182 = .ok (.iload_n 2, 1) := by decide +kernel
theorem dX12_named_183 : decode cX12_named 183 = .ok (.baload, 1) := by decide +kernel
theorem dX12_named_184 : decode cX12_named 184 = .ok (.ifCond .eq 7, 3) := by decide +kernel
theorem dX12_named_187 : decode cX12_named 187 = .ok (.iconst 1, 1) := by decide +kernel
theorem dX12_named_188 : decode cX12_named 188 = .ok (.goto 4, 3) := by decide +kernel
theorem dX12_named_191 : decode cX12_named 191 = .ok (.iconst 3, 1) := by decide +kernel
theorem dX12_named_192 : decode cX12_named 192 = .ok (.iload_n 2, 1) := by decide +kernel
theorem dX12_named_193 : decode cX12_named 193 = .ok (.iconst (-1), 1) := by decide +kernel
theorem dX12_named_194 : decode cX12_named 194 = .ok (.if_icmp .ne 7, 3) := by decide +kernel
theorem dX12_named_197 : decode cX12_named 197 = .ok (.iconst 0, 1) := by decide +kernel
theorem dX12_named_198 : decode cX12_named 198 = .ok (.goto 9, 3) := by decide +kernel
theorem dX12_named_201 : decode cX12_named 201 = .ok (.aload_n 0, 1) := by decide +kernel
theorem dX12_named_202 : decode cX12_named 202 = .ok (.getfield 49, 3) := by decide +kernel
theorem dX12_named_205 : decode cX12_named 205 = .ok (.iload_n 2, 1) := by decide +kernel
theorem dX12_named_206 : decode cX12_named 206 = .ok (.iaload, 1) := by decide +kernel
theorem dX12_named_207 : decode cX12_named 207 = .ok (.iconst 0, 1) := by decide +kernel
theorem dX12_named_208 : decode cX12_named 208 = .ok (.invokevirtual 401, 3) := by decide +kernel
theorem dX12_named_211 : decode cX12_named 211 = .ok (.pop, 1) := by decide +kernel
theorem dX12_named_212 : decode cX12_named 212 = .ok (.iconst 1, 1) := by decide +kernel
theorem dX12_named_213 : decode cX12_named 213 = .ok (.ireturn, 1) := by decide +kernel
theorem dX12_call_0 : decode cX12_call 0 = .ok (.aload_n 0, 1) := by decide +kernel
theorem dX12_call_1 : decode cX12_call 1 = .ok (.getfield 245, 3) := by decide +kernel
theorem dX12_call_4 : decode cX12_call 4 = .ok (.ifCond .ne 7, 3) := by decide +kernel
theorem dX12_call_7 : decode cX12_call 7 = .ok (.iconst (-1), 1) := by decide +kernel
theorem dX12_call_8 : decode cX12_call 8 = .ok (.goto 8, 3) := by decide +kernel
theorem dX12_call_11 : decode cX12_call 11 = .ok (.aload_n 0, 1) := by decide +kernel
theorem dX12_call_12 : decode cX12_call 12 = .ok (.iload_n 1, 1) := by decide +kernel
theorem dX12_call_13 : decode cX12_call 13 = .ok (.invokevirtual 457, 3) := by decide +kernel
theorem dX12_call_16 : decode cX12_call 16 = .ok (.istore_n 3, 1) := by decide +kernel
theorem dX12_call_17 : decode cX12_call 17 = .ok (.aload_n 0, 1) := by decide +kernel
theorem dX12_call_18 : decode cX12_call 18 = .ok (.getfield 245, 3) := by decide +kernel
theorem dX12_call_21 : decode cX12_call 21 = .ok (.ifCond .ne 7, 3) := by decide +kernel
theorem dX12_call_24 : decode cX12_call 24 = .ok (.iconst (-1), 1) := by decide +kernel
theorem dX12_call_25 : decode cX12_call 25 = .ok (.goto 7, 3) := by decide +kernel
theorem dX12_call_28 : decode cX12_call 28 = .ok (.aload_n 0, 1) := by decide +kernel
theorem dX12_call_29 : decode cX12_call 29 = .ok (.getfield 374, 3) := by decide +kernel
theorem dX12_call_32 : decode cX12_call 32 = .ok (.istore 4, 2) := by decide +kernel
theorem dX12_call_34 : decode cX12_call 34 = .ok (.aload_n 0, 1) := by decide +kernel
theorem dX12_call_35 : decode cX12_call 35 = .ok (.getfield 365, 3) := by decide +kernel
theorem dX12_call_38 : decode cX12_call 38 = .ok (.ifCond .ne 25, 3) := by decide +kernel
theorem dX12_call_41 : decode cX12_call 41 = .ok (.iload_n 3, 1) := by decide +kernel
theorem dX12_call_42 : decode cX12_call 42 = .ok (.iconst (-1), 1) := by decide +kernel
theorem dX12_call_43 : decode cX12_call 43 = .ok (.if_icmp .ne 20, 3) := by decide +kernel
theorem dX12_call_46 : decode cX12_call 46 = .ok (.iload 4, 2) := by decide +kernel
theorem dX12_call_48 : decode cX12_call 48 = .ok (.iconst (-1), 1) := by decide +kernel
theorem dX12_call_49 : decode cX12_call 49 = .ok (.if_icmp .ne 14, 3) := by decide +kernel
theorem dX12_call_52 : decode cX12_call 52 = .ok (.aload_n 0, 1) := by decide +kernel
theorem dX12_call_53 : decode cX12_call 53 = .ok (.iconst 4, 1) := by decide +kernel
theorem dX12_call_54 : decode cX12_call 54 = .ok (.aload_n 0, 1) := by decide +kernel
theorem dX12_call_55 : decode cX12_call 55 = .ok (.getfield 22, 3) := by decide +kernel
theorem dX12_call_58 : decode cX12_call 58 = .ok (.iload_n 1, 1) := by decide +kernel
theorem dX12_call_59 : decode cX12_call 59 = .ok (.iaload, 1) := by decide +kernel
theorem dX12_call_60 : decode cX12_call 60 = .ok (.invokevirtual 352, 3) := by decide +kernel
theorem dX12_call_63 : decode cX12_call 63 = .ok (.aload_n 0, 1) := by decide +kernel
theorem dX12_call_64 : decode cX12_call 64 = .ok (.getfield 365, 3) := by decide +kernel
theorem dX12_call_67 : decode cX12_call 67 = .ok (.ifCond .ne 20, 3) := by decide +kernel
theorem dX12_call_70 : decode cX12_call 70 = .ok (.iload_n 3, 1) := by decide +kernel
theorem dX12_call_71 : decode cX12_call 71 = .ok (.iconst (-1), 1) := by decide +kernel
theorem dX12_call_72 : decode cX12_call 72 = .ok (.if_icmp .eq 15, 3) := by decide +kernel
theorem dX12_call_75 : decode cX12_call 75 = .ok (.aload_n 0, 1) := by decide +kernel
theorem dX12_call_76 : decode cX12_call 76 = .ok (.bipush 6, 2) := by decide +kernel
theorem dX12_call_78 : decode cX12_call 78 = .ok (.aload_n 0, 1) := by decide +kernel
theorem dX12_call_79 : decode cX12_call 79 = .ok (.getfield 22, 3) := by decide +kernel
theorem dX12_call_82 : decode cX12_call 82 = .ok (.iload_n 1, 1) := by decide +kernel
theorem dX12_call_83 : decode cX12_call 83 = .ok (.iaload, 1) := by decide +kernel
theorem dX12_call_84 : decode cX12_call 84 = .ok (.invokevirtual 352, 3) := by decide +kernel
theorem dX12_call_87 : decode cX12_call 87 = .ok (.aload_n 0, 1) := by decide +kernel
theorem dX12_call_88 : decode cX12_call 88 = .ok (.getfield 365, 3) := by decide +kernel
theorem dX12_call_91 : decode cX12_call 91 = .ok (.ifCond .ne 35, 3) := by decide +kernel
theorem dX12_call_94 : decode cX12_call 94 = .ok (.iload 4, 2) := by decide +kernel
theorem dX12_call_96 : decode cX12_call 96 = .ok (.iconst (-1), 1) := by decide +kernel
theorem dX12_call_97 : decode cX12_call 97 = .ok (.if_icmp .eq 29, 3) := by decide +kernel
theorem dX12_call_100 : decode cX12_call 100 = .ok (.iload_n 2, 1) := by decide +kernel
theorem dX12_call_101 : decode cX12_call 101 = .ok (.ifCond .eq 25, 3) := by decide +kernel
theorem dX12_call_104 : decode cX12_call 104 = .ok (.aload_n 0, 1) := by decide +kernel
theorem dX12_call_105 : decode cX12_call 105 = .ok (.getfield 86, 3) := by decide +kernel
theorem dX12_call_108 : decode cX12_call 108 = .ok (.iload 4, 2) := by decide +kernel
theorem dX12_call_110 : decode cX12_call 110 = .ok (.baload, 1) := by decide +kernel
theorem dX12_call_111 : decode cX12_call 111 = .ok (.ifCond .eq 15, 3) := by decide +kernel
theorem dX12_call_114 : decode cX12_call 114 = .ok (.aload_n 0, 1) := by decide +kernel
theorem dX12_call_115 : decode cX12_call 115 = .ok (.bipush 8, 2) := by decide +kernel
theorem dX12_call_117 : decode cX12_call 117 = .ok (.aload_n 0, 1) := by decide +kernel
theorem dX12_call_118 : decode cX12_call 118 = .ok (.getfield 22, 3) := by decide +kernel
theorem dX12_call_121 : decode cX12_call 121 = .ok (.iload_n 1, 1) := by decide +kernel
theorem dX12_call_122 : decode cX12_call 122 = .ok (.iaload, 1) := by decide +kernel
theorem dX12_call_123 : decode cX12_call 123 = .ok (.invokevirtual 352, 3) := by decide +kernel
theorem dX12_call_126 : decode cX12_call 126 = .ok (.aload_n 0, 1) := by decide +kernel
theorem dX12_call_127 : decode cX12_call 127 = .ok (.bipush 22, 2) := by decide +kernel
theorem dX12_call_129 : decode cX12_call 129 = .ok (.invokevirtual 356, 3) := by decide +kernel
theorem dX12_call_132 : decode cX12_call 132 = .ok (.ifCond .ne 5, 3) := by decide +kernel
theorem dX12_call_135 : decode cX12_call 135 = .ok (.iconst 0, 1) := by decide +kernel
theorem dX12_call_136 : decode cX12_call 136 = .ok (.ireturn, 1) := by decide +kernel
theorem dX12_call_137 : decode cX12_call 137 = .ok (.iconst 0, 1) := by decide +kernel
theorem dX12_call_138 : decode cX12_call 138 = .ok (.istore 5, 2) := by decide +kernel
theorem dX12_call_140 : decode cX12_call 140 = .ok (.aload_n 0, 1) := by decide +kernel
theorem dX12_call_141 : decode cX12_call 141 = .ok (.bipush 23, 2) := by decide +kernel
theorem dX12_call_143 : decode cX12_call 143 = .ok (.invokevirtual 257, 3) := by decide +kernel
theorem dX12_call_146 : decode cX12_call 146 = .ok (.ifCond .ne 7, 3) := by decide +kernel
theorem dX12_call_149 : decode cX12_call 149 = .ok (.iconst 1, 1) := by decide +kernel
theorem dX12_call_150 : decode cX12_call 150 = .ok (.goto 4, 3) := by decide +kernel
theorem dX12_call_153 : decode cX12_call 153 = .ok (.iconst 0, 1) := by decide +kernel
theorem dX12_call_154 : decode cX12_call 154 = .ok (.istore 6, 2) := by decide +kernel
theorem dX12_call_156 : decode cX12_call 156 = .ok (.iload 6, 2) := by decide +kernel
theorem dX12_call_158 : decode cX12_call 158 = .ok (.ifCond .eq 49, 3) := by decide +kernel
theorem dX12_call_161 : decode cX12_call 161 = .ok (.aload_n 0, 1) := by decide +kernel
theorem dX12_call_162 : decode cX12_call 162 = .ok (.iload 4, 2) := by decide +kernel
theorem dX12_call_164 : decode cX12_call 164 = .ok (.iload 5, 2) := by decide +kernel
theorem dX12_call_166 : decode cX12_call 166 = .ok (.invokevirtual 484, 3) := by decide +kernel
theorem dX12_call_169 : decode cX12_call 169 = .ok (.ifCond .ne 5, 3) := by decide +kernel
theorem dX12_call_172 : decode cX12_call 172 = .ok (.iconst 0, 1) := by decide +kernel
theorem dX12_call_173 : decode cX12_call 173 = .ok (.ireturn, 1) := by decide +kernel
theorem dX12_call_174 : decode cX12_call 174 = .ok (.iinc 5 1, 3) := by decide +kernel
theorem dX12_call_177 : decode cX12_call 177 = .ok (.aload_n 0, 1) := by decide +kernel
theorem dX12_call_178 : decode cX12_call 178 = .ok (.bipush 28, 2) := by decide +kernel
theorem dX12_call_180 : decode cX12_call 180 = .ok (.invokevirtual 257, 3) := by decide +kernel
theorem dX12_call_183 : decode cX12_call 183 = .ok (.istore 6, 2) := by decide +kernel
theorem dX12_call_185 : decode cX12_call 185 = .ok (.aload_n 0, 1) := by decide +kernel
theorem dX12_call_186 : decode cX12_call 186 = .ok (.dup, 1) := by decide +kernel
theorem dX12_call_187 : decode cX12_call 187 = .ok (.getfield 233, 3) := by decide +kernel
theorem dX12_call_190 : decode cX12_call 190 = .ok (.iload 6, 2) := by decide +kernel
theorem dX12_call_192 : decode cX12_call 192 = .ok (.ifCond .eq 7, 3) := by decide +kernel
theorem dX12_call_195 : decode cX12_call 195 = .ok (.iconst 1, 1) := by decide +kernel
theorem dX12_call_196 : decode cX12_call 196 = .ok (.goto 4, 3) := by decide +kernel
theorem dX12_call_199 : decode cX12_call 199 = .ok (.iconst 0, 1) := by decide +kernel
theorem dX12_call_200 : decode cX12_call 200 = .ok (.iadd, 1) := by decide +kernel
theorem dX12_call_201 : decode cX12_call 201 = .ok (.putfield 233, 3) := by decide +kernel
theorem dX12_call_204 : decode cX12_call 204 = .ok (.goto (-48), 3) := by decide +kernel
theorem dX12_call_207 : decode cX12_call 207 = .ok (.aload_n 0, 1) := by decide +kernel
theorem dX12_call_208 : decode cX12_call 208 = .ok (.getfield 365, 3) := by decide +kernel
theorem dX12_call_211 : decode cX12_call 211 = .ok (.ifCond .ne 45, 3) := by decide +kernel
theorem dX12_call_214 : decode cX12_call 214 = .ok (.iload 4, 2) := by decide +kernel
theorem dX12_call_216 : decode cX12_call 216 = .ok (.iconst (-1), 1) := by decide +kernel
theorem dX12_call_217 : decode cX12_call 217 = .ok (.if_icmp .eq 39, 3) := by decide +kernel
theorem dX12_call_220 : decode cX12_call 220 = .ok (.iload 5, 2) := by decide +kernel
theorem dX12_call_222 : decode cX12_call 222 = .ok (.aload_n 0, 1) := by decide +kernel
theorem dX12_call_223 : decode cX12_call 223 = .ok (.getfield 68, 3) := by decide +kernel
theorem dX12_call_226 : decode cX12_call 226 = .ok (.iload 4, 2) := by decide +kernel
theorem dX12_call_228 : decode cX12_call 228 = .ok (.iaload, 1) := by decide +kernel
theorem dX12_call_229 : decode cX12_call 229 = .ok (.if_icmp .ge 27, 3) := by decide +kernel
theorem dX12_call_232 : decode cX12_call 232 = .ok (.aload_n 0, 1) := by decide +kernel
theorem dX12_call_233 : decode cX12_call 233 = .ok (.bipush 23, 2) := by decide +kernel
theorem dX12_call_235 : decode cX12_call 235 = .ok (.invokevirtual 257, 3) := by decide +kernel
theorem dX12_call_238 : decode cX12_call 238 = .ok (.ifCond .eq 18, 3) := by decide +kernel
theorem dX12_call_241 : decode cX12_call 241 = .ok (.aload_n 0, 1) := by decide +kernel
theorem dX12_call_242 : decode cX12_call 242 = .ok (.bipush 7, 2) := by decide +kernel
theorem dX12_call_244 : decode cX12_call 244 = .ok (.aload_n 0, 1) := by decide +kernel
theorem dX12_call_245 : decode cX12_call 245 = .ok (.getfield 22, 3) := by decide +kernel
theorem dX12_call_248 : decode cX12_call 248 = .ok (.aload_n 0, 1) := by decide +kernel
theorem dX12_call_249 : decode cX12_call 249 = .ok (.getfield 233, 3) := by decide +kernel
theorem dX12_call_252 : decode cX12_call 252 = .ok (.iaload, 1) := by decide +kernel
theorem dX12_call_253 : decode cX12_call 253 = .ok (.invokevirtual 352, 3) := by decide +kernel
theorem dX12_call_256 : decode cX12_call 256 = .ok (.aload_n 0, 1) := by decide +kernel
theorem dX12_call_257 : decode cX12_call 257 = .ok (.bipush 23, 2) := by decide +kernel
theorem dX12_call_259 : decode cX12_call 259 = .ok (.invokevirtual 362, 3) := by decide +kernel
theorem dX12_call_262 : decode cX12_call 262 = .ok (.ifCond .ne 5, 3) := by decide +kernel
theorem dX12_call_265 : decode cX12_call 265 = .ok (.iconst 0, 1) := by decide +kernel
theorem dX12_call_266 : decode cX12_call 266 = .ok (.ireturn, 1) := by decide +kernel
theorem dX12_call_267 : decode cX12_call 267 = .ok (.aload_n 0, 1) := by decide +kernel
theorem dX12_call_268 : decode cX12_call 268 = .ok (.bipush 15, 2) := by decide +kernel
theorem dX12_call_270 : decode cX12_call 270 = .ok (.iconst 0, 1) := by decide +kernel
theorem dX12_call_271 : decode cX12_call 271 = .ok (.iconst 0, 1) := by decide +kernel
theorem dX12_call_272 : decode cX12_call 272 = .ok (.invokevirtual 401, 3) := by decide +kernel
theorem dX12_call_275 : decode cX12_call 275 = .ok (.pop, 1) := by decide +kernel
theorem dX12_call_276 : decode cX12_call 276 = .ok (.aload_n 0, 1) := by decide +kernel
theorem dX12_call_277 : decode cX12_call 277 = .ok (.bipush 16, 2) := by decide +kernel
theorem dX12_call_279 : decode cX12_call 279 = .ok (.iload 4, 2) := by decide +kernel
theorem dX12_call_281 : decode cX12_call 281 = .ok (.aload_n 0, 1) := by decide +kernel
theorem dX12_call_282 : decode cX12_call 282 = .ok (.getfield 22, 3) := by decide +kernel
theorem dX12_call_285 : decode cX12_call 285 = .ok (.iload_n 1, 1) := by decide +kernel
theorem dX12_call_286 : decode cX12_call 286 = .ok (.iaload, 1) := by decide +kernel
theorem dX12_call_287 : decode cX12_call 287 = .ok (.invokevirtual 401, 3) := by decide +kernel
theorem dX12_call_290 : decode cX12_call 290 = .ok (.pop, 1) := by decide +kernel
theorem dX12_call_291 : decode cX12_call 291 = .ok (.iconst 1, 1) := by decide +kernel
theorem dX12_call_292 : decode cX12_call 292 = .ok (.ireturn, 1) := by decide +kernel
theorem dX12_argument_0 : decode cX12_argument 0 = .ok (.aload_n 0, 1) := by decide +kernel
theorem dX12_argument_1 : decode cX12_argument 1 = .ok (.getfield 365, 3) := by decide +kernel
theorem dX12_argument_4 : decode cX12_argument 4 = .ok (.ifCond .ne 8, 3) := by decide +kernel
theorem dX12_argument_7 : decode cX12_argument 7 = .ok (.iload_n 1, 1) := by decide +kernel
theorem dX12_argument_8 : decode cX12_argument 8 = .ok (.iconst (-1), 1) := by decide +kernel
theorem dX12_argument_9 : decode cX12_argument 9 = .ok (.if_icmp .ne 8, 3) := by decide +kernel
theorem dX12_argument_12 : decode cX12_argument 12 = .ok (.aload_n 0, 1) := by decide +kernel
theorem dX12_argument_13 : decode cX12_argument 13 = .ok (.invokevirtual 368, 3) := by decide +kernel
theorem dX12_argument_16 : decode cX12_argument 16 = .ok (.ireturn, 1) := by decide +kernel
theorem dX12_argument_17 : decode cX12_argument 17 = .ok (.aload_n 0, 1) := by decide +kernel
theorem dX12_argument_18 : decode cX12_argument 18 = .ok (.getfield 22, 3) := by decide +kernel
theorem dX12_argument_21 : decode cX12_argument 21 = .ok (.aload_n 0, 1) := by decide +kernel
theorem dX12_argument_22 : decode cX12_argument 22 = .ok (.getfield 233, 3) := by decide +kernel
theorem dX12_argument_25 : decode cX12_argument 25 = .ok (.iaload, 1) := by decide +kernel
theorem dX12_argument_26 : decode cX12_argument 26 = .ok (.istore_n 3, 1) := by decide +kernel
theorem dX12_argument_27 : decode cX12_argument 27 = .ok (.iload_n 2, 1) := by decide +kernel
theorem dX12_argument_28 : decode cX12_argument 28 = .ok (.aload_n 0, 1) := by decide +kernel
theorem dX12_argument_29 : decode cX12_argument 29 = .ok (.getfield 68, 3) := by decide +kernel
theorem dX12_argument_32 : decode cX12_argument 32 = .ok (.iload_n 1, 1) := by decide +kernel
theorem dX12_argument_33 : decode cX12_argument 33 = .ok (.iaload, 1) := by decide +kernel
theorem dX12_argument_34 : decode cX12_argument 34 = .ok (.if_icmp .lt 15, 3) := by decide +kernel
theorem dX12_argument_37 : decode cX12_argument 37 = .ok (.aload_n 0, 1) := by decide +kernel
theorem dX12_argument_38 : decode cX12_argument 38 = .ok (.bipush 7, 2) := by decide +kernel
theorem dX12_argument_40 : decode cX12_argument 40 = .ok (.iload_n 3, 1) := by decide +kernel
theorem dX12_argument_41 : decode cX12_argument 41 = .ok (.invokevirtual 352, 3) := by decide +kernel
theorem dX12_argument_44 : decode cX12_argument 44 = .ok (.aload_n 0, 1) := by decide +kernel
theorem dX12_argument_45 : decode cX12_argument 45 = .ok (.invokevirtual 368, 3) := by decide +kernel
theorem dX12_argument_48 : decode cX12_argument 48 = .ok (.ireturn, 1) := by decide +kernel
theorem dX12_argument_49 : decode cX12_argument 49 = .ok (.aload_n 0, 1) := by decide +kernel
theorem dX12_argument_50 : decode cX12_argument 50 = .ok (.getfield 89, 3) := by decide +kernel
theorem dX12_argument_53 : decode cX12_argument 53 = .ok (.aload_n 0, 1) := by decide +kernel
theorem dX12_argument_54 : decode cX12_argument 54 = .ok (.getfield 80, 3) := by decide +kernel
theorem dX12_argument_57 : decode cX12_argument 57 = .ok (.iload_n 1, 1) := by decide +kernel
theorem dX12_argument_58 : decode cX12_argument 58 = .ok (.iaload, 1) := by decide +kernel
theorem dX12_argument_59 : decode cX12_argument 59 = .ok (.iload_n 2, 1) := by decide +kernel
theorem dX12_argument_60 : decode cX12_argument 60 = .ok (.iadd, 1) := by decide +kernel
theorem dX12_argument_61 : decode cX12_argument 61 = .ok (.iaload, 1) := by decide +kernel
theorem dX12_argument_62 : decode cX12_argument 62 = .ok (.istore 4, 2) := by decide +kernel
theorem dX12_argument_64 : decode cX12_argument 64 = .ok (.iload 4, 2) := by decide +kernel
theorem dX12_argument_66 : decode cX12_argument 66 = .ok (.ifCond .ne 8, 3) := by decide +kernel
theorem dX12_argument_69 : decode cX12_argument 69 = .ok (.aload_n 0, 1) := by decide +kernel
theorem dX12_argument_70 : decode cX12_argument 70 = .ok (.invokevirtual 368, 3) := by decide +kernel
theorem dX12_argument_73 : decode cX12_argument 73 = .ok (.ireturn, 1) := by decide +kernel
theorem dX12_argument_74 : decode cX12_argument 74 = .ok (.aload_n 0, 1) := by decide +kernel
theorem dX12_argument_75 : decode cX12_argument 75 = .ok (.getfield 16, 3) := by decide +kernel
theorem dX12_argument_78 : decode cX12_argument 78 = .ok (.aload_n 0, 1) := by decide +kernel
theorem dX12_argument_79 : decode cX12_argument 79 = .ok (.getfield 233, 3) := by decide +kernel
theorem dX12_argument_82 : decode cX12_argument 82 = .ok (.iaload, 1) := by decide +kernel
theorem dX12_argument_83 : decode cX12_argument 83 = .ok (.iconst 1, 1) := by decide +kernel
theorem dX12_argument_84 : decode cX12_argument 84 = .ok (.if_icmp .ne 54, 3) := by decide +kernel
theorem dX12_argument_87 : decode cX12_argument 87 = .ok (.aload_n 0, 1) := by decide +kernel
theorem dX12_argument_88 : decode cX12_argument 88 = .ok (.getfield 16, 3) := by decide +kernel
theorem dX12_argument_91 : decode cX12_argument 91 = .ok (.aload_n 0, 1) := by decide +kernel
theorem dX12_argument_92 : decode cX12_argument 92 = .ok (.getfield 233, 3) := by decide +kernel
theorem dX12_argument_95 : decode cX12_argument 95 = .ok (.iconst 1, 1) := by decide +kernel
theorem dX12_argument_96 : decode cX12_argument 96 = .ok (.iadd, 1) := by decide +kernel
theorem dX12_argument_97 : decode cX12_argument 97 = .ok (.iaload, 1) := by decide +kernel
theorem dX12_argument_98 : decode cX12_argument 98 = .ok (.iconst 4, 1) := by decide +kernel
theorem dX12_argument_99 : decode cX12_argument 99 = .ok (.if_icmp .ne 39, 3) := by decide +kernel
theorem dX12_argument_102 : decode cX12_argument 102 = .ok (.aload_n 0, 1) := by decide +kernel
theorem dX12_argument_103 : decode cX12_argument 103 = .ok (.getfield 19, 3) := by decide +kernel
theorem dX12_argument_106 : decode cX12_argument 106 = .ok (.aload_n 0, 1) := by decide +kernel
theorem dX12_argument_107 : decode cX12_argument 107 = .ok (.getfield 233, 3) := by decide +kernel
theorem dX12_argument_110 : decode cX12_argument 110 = .ok (.iconst 1, 1) := by decide +kernel
theorem dX12_argument_111 : decode cX12_argument 111 = .ok (.iadd, 1) := by decide +kernel
theorem dX12_argument_112 : decode cX12_argument 112 = .ok (.iaload, 1) := by decide +kernel
theorem dX12_argument_113 : decode cX12_argument 113 = .ok (.bipush 28, 2) := by decide +kernel
theorem dX12_argument_115 : decode cX12_argument 115 = .ok (.if_icmp .eq 19, 3) := by decide +kernel
theorem dX12_argument_118 : decode cX12_argument 118 = .ok (.aload_n 0, 1) := by decide +kernel
theorem dX12_argument_119 : decode cX12_argument 119 = .ok (.getfield 19, 3) := by decide +kernel
theorem dX12_argument_122 : decode cX12_argument 122 = .ok (.aload_n 0, 1) := by decide +kernel
theorem dX12_argument_123 : decode cX12_argument 123 = .ok (.getfield 233, 3) := by decide +kernel
theorem dX12_argument_126 : decode cX12_argument 126 = .ok (.iconst 1, 1) := by decide +kernel
theorem dX12_argument_127 : decode cX12_argument 127 = .ok (.iadd, 1) := by decide +kernel
theorem dX12_argument_128 : decode cX12_argument 128 = .ok (.iaload, 1) := by decide +kernel
theorem dX12_argument_129 : decode cX12_argument 129 = .ok (.bipush 23, 2) := by decide +kernel
theorem dX12_argument_131 : decode cX12_argument 131 = .ok (.if_icmp .ne 7, 3) := by decide +kernel
theorem dX12_argument_134 : decode cX12_argument 134 = .ok (.iconst 1, 1) := by decide +kernel
theorem dX12_argument_135 : decode cX12_argument 135 = .ok (.goto 4, 3) := by decide +kernel
theorem dX12_argument_138 : decode cX12_argument 138 = .ok (.iconst 0, 1) := by decide +kernel
theorem dX12_argument_139 : decode cX12_argument 139 = .ok (.istore 5, 2) := by decide +kernel
theorem dX12_argument_141 : decode cX12_argument 141 = .ok (.iload 5, 2) := by decide +kernel
theorem dX12_argument_143 : decode cX12_argument 143 = .ok (.ifCond .ne 15, 3) := by decide +kernel
theorem dX12_argument_146 : decode cX12_argument 146 = .ok (.aload_n 0, 1) := by decide +kernel
theorem dX12_argument_147 : decode cX12_argument 147 = .ok (.bipush 7, 2) := by decide +kernel
theorem dX12_argument_149 : decode cX12_argument 149 = .ok (.iload_n 3, 1) := by decide +kernel
theorem dX12_argument_150 : decode cX12_argument 150 = .ok (.invokevirtual 352, 3) := by decide +kernel
theorem dX12_argument_153 : decode cX12_argument 153 = .ok (.aload_n 0, 1) := by decide +kernel
theorem dX12_argument_154 : decode cX12_argument 154 = .ok (.invokevirtual 368, 3) := by decide +kernel
theorem dX12_argument_157 : decode cX12_argument 157 = .ok (.ireturn, 1) := by decide +kernel
theorem dX12_argument_158 : decode cX12_argument 158 = .ok (.aload_n 0, 1) := by decide +kernel
theorem dX12_argument_159 : decode cX12_argument 159 = .ok (.aload_n 0, 1) := by decide +kernel
theorem dX12_argument_160 : decode cX12_argument 160 = .ok (.getfield 233, 3) := by decide +kernel
theorem dX12_argument_163 : decode cX12_argument 163 = .ok (.invokevirtual 457, 3) := by decide +kernel
theorem dX12_argument_166 : decode cX12_argument 166 = .ok (.istore 6, 2) := by decide +kernel
theorem dX12_argument_168 : decode cX12_argument 168 = .ok (.iload 6, 2) := by decide +kernel
theorem dX12_argument_170 : decode cX12_argument 170 = .ok (.iconst (-1), 1) := by decide +kernel
theorem dX12_argument_171 : decode cX12_argument 171 = .ok (.if_icmp .ne 20, 3) := by decide +kernel
theorem dX12_argument_174 : decode cX12_argument 174 = .ok (.aload_n 0, 1) := by decide +kernel
theorem dX12_argument_175 : decode cX12_argument 175 = .ok (.getfield 374, 3) := by decide +kernel
theorem dX12_argument_178 : decode cX12_argument 178 = .ok (.iconst (-1), 1) := by decide +kernel
theorem dX12_argument_179 : decode cX12_argument 179 = .ok (.if_icmp .ne 12, 3) := by decide +kernel
theorem dX12_argument_182 : decode cX12_argument 182 = .ok (.aload_n 0, 1) := by decide +kernel
theorem dX12_argument_183 : decode cX12_argument 183 = .ok (.iconst 4, 1) := by decide +kernel
theorem dX12_argument_184 : decode cX12_argument 184 = .ok (.iload_n 3, 1) := by decide +kernel
theorem dX12_argument_185 : decode cX12_argument 185 = .ok (.invokevirtual 352, 3) := by decide +kernel
theorem dX12_argument_188 : decode cX12_argument 188 = .ok (.goto 48, 3) := by decide +kernel
theorem dX12_argument_191 : decode cX12_argument 191 = .ok (.iload 6, 2) := by decide +kernel
theorem dX12_argument_193 : decode cX12_argument 193 = .ok (.iconst (-1), 1) := by decide +kernel
theorem dX12_argument_194 : decode cX12_argument 194 = .ok (.if_icmp .eq 35, 3) := by decide +kernel
theorem dX12_argument_197 : decode cX12_argument 197 = .ok (.aload_n 0, 1) := by decide +kernel
theorem dX12_argument_198 : decode cX12_argument 198 = .ok (.getfield 40, 3) := by decide +kernel
theorem dX12_argument_201 : decode cX12_argument 201 = .ok (.iload 6, 2) := by decide +kernel
theorem dX12_argument_203 : decode cX12_argument 203 = .ok (.iaload, 1) := by decide +kernel
theorem dX12_argument_204 : decode cX12_argument 204 = .ok (.iconst 2, 1) := by decide +kernel
theorem dX12_argument_205 : decode cX12_argument 205 = .ok (.if_icmp .ne 24, 3) := by decide +kernel
theorem dX12_argument_208 : decode cX12_argument 208 = .ok (.aload_n 0, 1) := by decide +kernel
theorem dX12_argument_209 : decode cX12_argument 209 = .ok (.getfield 55, 3) := by decide +kernel
theorem dX12_argument_212 : decode cX12_argument 212 = .ok (.iload 6, 2) := by decide +kernel
theorem dX12_argument_214 : decode cX12_argument 214 = .ok (.baload, 1) := by decide +kernel
theorem dX12_argument_215 : decode cX12_argument 215 = .ok (.iload 4, 2) := by decide +kernel
theorem dX12_argument_217 : decode cX12_argument 217 = .ok (.iconst 2, 1) := by decide +kernel
theorem dX12_argument_218 : decode cX12_argument 218 = .ok (.if_icmp .ne 7, 3) := by decide +kernel
theorem dX12_argument_221 : decode cX12_argument 221 = .ok (.iconst 1, 1) := by decide +kernel
theorem dX12_argument_222 : decode cX12_argument 222 = .ok (.goto 4, 3) := by decide +kernel
theorem dX12_argument_225 : decode cX12_argument 225 = .ok (.iconst 0, 1) := by decide +kernel
theorem dX12_argument_226 : decode cX12_argument 226 = .ok (.if_icmp .eq 10, 3) := by decide +kernel
theorem dX12_argument_229 : decode cX12_argument 229 = .ok (.aload_n 0, 1) := by decide +kernel
theorem dX12_argument_230 : decode cX12_argument 230 = .ok (.bipush 7, 2) := by decide +kernel
theorem dX12_argument_232 : decode cX12_argument 232 = .ok (.iload_n 3, 1) := by decide +kernel
theorem dX12_argument_233 : decode cX12_argument 233 = .ok (.invokevirtual 352, 3) := by decide +kernel
theorem dX12_argument_236 : decode cX12_argument 236 = .ok (.aload_n 0, 1) := by decide +kernel
theorem dX12_argument_237 : decode cX12_argument 237 = .ok (.dup, 1) := by decide +kernel
theorem dX12_argument_238 : decode cX12_argument 238 = .ok (.getfield 233, 3) := by decide +kernel
theorem dX12_argument_241 : decode cX12_argument 241 = .ok (.iconst 1, 1) := by decide +kernel
theorem dX12_argument_242 : decode cX12_argument 242 = .ok (.iadd, 1) := by decide +kernel
theorem dX12_argument_243 : decode cX12_argument 243 = .ok (.putfield 233, 3) := by decide +kernel
theorem dX12_argument_246 : decode cX12_argument 246 = .ok (.aload_n 0, 1) := by decide +kernel
theorem dX12_argument_247 : decode cX12_argument 247 = .ok (.iconst 5, 1) := by decide +kernel
theorem dX12_argument_248 : decode cX12_argument 248 = .ok (.iload 6, 2) := by decide +kernel
theorem dX12_argument_250 : decode cX12_argument 250 = .ok (.iconst (-1), 1) := by decide +kernel
theorem dX12_argument_251 : decode cX12_argument 251 = .ok (.if_icmp .ne 7, 3) := by decide +kernel
theorem dX12_argument_254 : decode cX12_argument 254 = .ok (.iconst 0, 1) := by decide +kernel
theorem dX12_argument_255 : decode cX12_argument 255 = .ok (.goto 10, 3) := by decide +kernel
theorem dX12_argument_258 : decode cX12_argument 258 = .ok (.aload_n 0, 1) := by decide +kernel
theorem dX12_argument_259 : decode cX12_argument 259 = .ok (.getfield 49, 3) := by decide +kernel
theorem dX12_argument_262 : decode cX12_argument 262 = .ok (.iload 6, 2) := by decide +kernel
theorem dX12_argument_264 : decode cX12_argument 264 = .ok (.iaload, 1) := by decide +kernel
theorem dX12_argument_265 : decode cX12_argument 265 = .ok (.iload 6, 2) := by decide +kernel
theorem dX12_argument_267 : decode cX12_argument 267 = .ok (.iconst (-1), 1) := by decide +kernel
theorem dX12_argument_268 : decode cX12_argument 268 = .ok (.if_icmp .ne 7, 3) := by decide +kernel
theorem dX12_argument_271 : decode cX12_argument 271 = .ok (.iconst 1, 1) := by decide +kernel
theorem dX12_argument_272 : decode cX12_argument 272 = .ok (.goto 10, 3) := by decide +kernel
theorem dX12_argument_275 : decode cX12_argument 275 = .ok (.aload_n 0, 1) := by decide +kernel
theorem dX12_argument_276 : decode cX12_argument 276 = .ok (.getfield 52, 3) := by decide +kernel
theorem dX12_argument_279 : decode cX12_argument 279 = .ok (.iload 6, 2) := by decide +kernel
theorem dX12_argument_281 : decode cX12_argument 281 = .ok (.iaload, 1) := by decide +kernel
theorem dX12_argument_282 : decode cX12_argument 282 = .ok (.invokevirtual 401, 3) := by decide +kernel
theorem dX12_argument_285 : decode cX12_argument 285 = .ok (.istore 7, 2) := by decide +kernel
theorem dX12_argument_287 : decode cX12_argument 287 = .ok (.aload_n 0, 1) := by decide +kernel
theorem dX12_argument_288 : decode cX12_argument 288 = .ok (.getfield 113, 3) := by decide +kernel
theorem dX12_argument_291 : decode cX12_argument 291 = .ok (.iload 7, 2) := by decide +kernel
theorem dX12_argument_293 : decode cX12_argument 293 = .ok (.iload 6, 2) := by decide +kernel
theorem dX12_argument_295 : decode cX12_argument 295 = .ok (.iconst (-1), 1) := by decide +kernel
theorem dX12_argument_296 : decode cX12_argument 296 = .ok (.if_icmp .eq 17, 3) := by decide +kernel
theorem dX12_argument_299 : decode cX12_argument 299 = .ok (.aload_n 0, 1) := by decide +kernel
theorem dX12_argument_300 : decode cX12_argument 300 = .ok (.getfield 59, 3) := by decide +kernel
theorem dX12_argument_303 : decode cX12_argument 303 = .ok (.iload 6, 2) := by decide +kernel
theorem dX12_argument_305 : decode cX12_argument 305 = .ok (.baload, 1) := by decide +kernel
theorem dX12_argument_306 : decode cX12_argument 306 = .ok (.ifCond .eq 7, 3) := by decide +kernel
theorem dX12_argument_309 : decode cX12_argument 309 = .ok (.iconst 1, 1) := by decide +kernel
theorem dX12_argument_310 : decode cX12_argument 310 = .ok (.goto 4, 3) := by decide +kernel
theorem dX12_argument_313 : decode cX12_argument 313 = .ok (.iconst 0, 1) := by decide +kernel
theorem dX12_argument_314 : decode cX12_argument 314 = .ok (.iastore, 1) := by decide +kernel
theorem dX12_argument_315 : decode cX12_argument 315 = .ok (.iconst 1, 1) := by decide +kernel
theorem dX12_argument_316 : decode cX12_argument 316 = .ok (.ireturn, 1) := by decide +kernel
theorem dX12_over_0 : decode cX12_over 0 = .ok (.iload_n 1, 1) := by decide +kernel
theorem dX12_over_1 : decode cX12_over 1 = .ok (.ifCond .ne 7, 3) := by decide +kernel
theorem dX12_over_4 : decode cX12_over 4 = .ok (.iconst (-1), 1) := by decide +kernel
theorem dX12_over_5 : decode cX12_over 5 = .ok (.goto 22, 3) := by decide +kernel
theorem dX12_over_8 : decode cX12_over 8 = .ok (.iload_n 0, 1) := by decide +kernel
theorem dX12_over_9 : decode cX12_over 9 = .ok (.ldc_w 490, 3) := by decide +kernel
theorem dX12_over_12 : decode cX12_over 12 = .ok (.if_icmp .ne 12, 3) := by decide +kernel
theorem dX12_over_15 : decode cX12_over 15 = .ok (.iload_n 1, 1) := by decide +kernel
theorem dX12_over_16 : decode cX12_over 16 = .ok (.iconst (-1), 1) := by decide +kernel
theorem dX12_over_17 : decode cX12_over 17 = .ok (.if_icmp .ne 7, 3) := by decide +kernel
theorem dX12_over_20 : decode cX12_over 20 = .ok (.iload_n 0, 1) := by decide +kernel
theorem dX12_over_21 : decode cX12_over 21 = .ok (.goto 6, 3) := by decide +kernel
theorem dX12_over_24 : decode cX12_over 24 = .ok (.iload_n 0, 1) := by decide +kernel
theorem dX12_over_25 : decode cX12_over 25 = .ok (.iload_n 1, 1) := by decide +kernel
theorem dX12_over_26 : decode cX12_over 26 = .ok (.idiv, 1) := by decide +kernel
theorem dX12_over_27 : decode cX12_over 27 = .ok (.ireturn, 1) := by decide +kernel
theorem dX12_rest_0 : decode cX12_rest 0 = .ok (.iload_n 1, 1) := by decide +kernel
theorem dX12_rest_1 : decode cX12_rest 1 = .ok (.ifCond .ne 7, 3) := by decide +kernel
theorem dX12_rest_4 : decode cX12_rest 4 = .ok (.iload_n 0, 1) := by decide +kernel
theorem dX12_rest_5 : decode cX12_rest 5 = .ok (.goto 22, 3) := by decide +kernel
theorem dX12_rest_8 : decode cX12_rest 8 = .ok (.iload_n 0, 1) := by decide +kernel
theorem dX12_rest_9 : decode cX12_rest 9 = .ok (.ldc_w 490, 3) := by decide +kernel
theorem dX12_rest_12 : decode cX12_rest 12 = .ok (.if_icmp .ne 12, 3) := by decide +kernel
theorem dX12_rest_15 : decode cX12_rest 15 = .ok (.iload_n 1, 1) := by decide +kernel
theorem dX12_rest_16 : decode cX12_rest 16 = .ok (.iconst (-1), 1) := by decide +kernel
theorem dX12_rest_17 : decode cX12_rest 17 = .ok (.if_icmp .ne 7, 3) := by decide +kernel
theorem dX12_rest_20 : decode cX12_rest 20 = .ok (.iconst 0, 1) := by decide +kernel
theorem dX12_rest_21 : decode cX12_rest 21 = .ok (.goto 6, 3) := by decide +kernel
theorem dX12_rest_24 : decode cX12_rest 24 = .ok (.iload_n 0, 1) := by decide +kernel
theorem dX12_rest_25 : decode cX12_rest 25 = .ok (.iload_n 1, 1) := by decide +kernel
theorem dX12_rest_26 : decode cX12_rest 26 = .ok (.irem, 1) := by decide +kernel
theorem dX12_rest_27 : decode cX12_rest 27 = .ok (.ireturn, 1) := by decide +kernel
theorem dX12_doing_0 : decode cX12_doing 0 = .ok (.iload_n 0, 1) := by decide +kernel
theorem dX12_doing_1 : decode cX12_doing 1 = .ok (.tableswitch 296 1 41 #[271, 296, 296, 296, 296, 296, 296, 296, 296, 296, 296, 296, 296, 296, 296, 191, 202, 224, 246, 257, 264, 296, 296, 296, 296, 296, 296, 296, 296, 296, 296, 296, 179, 183, 187, 213, 235, 278, 282, 286, 290], 179) := by decide +kernel
theorem dX12_doing_180 : decode cX12_doing 180 = .ok (.iload_n 1, 1) := by decide +kernel
theorem dX12_doing_181 : decode cX12_doing 181 = .ok (.iload_n 2, 1) := by decide +kernel
theorem dX12_doing_182 : decode cX12_doing 182 = .ok (.ior, 1) := by decide +kernel
theorem dX12_doing_183 : decode cX12_doing 183 = .ok (.ireturn, 1) := by decide +kernel
theorem dX12_doing_184 : decode cX12_doing 184 = .ok (.iload_n 1, 1) := by decide +kernel
theorem dX12_doing_185 : decode cX12_doing 185 = .ok (.iload_n 2, 1) := by decide +kernel
theorem dX12_doing_186 : decode cX12_doing 186 = .ok (.ixor, 1) := by decide +kernel
theorem dX12_doing_187 : decode cX12_doing 187 = .ok (.ireturn, 1) := by decide +kernel
theorem dX12_doing_188 : decode cX12_doing 188 = .ok (.iload_n 1, 1) := by decide +kernel
theorem dX12_doing_189 : decode cX12_doing 189 = .ok (.iload_n 2, 1) := by decide +kernel
theorem dX12_doing_190 : decode cX12_doing 190 = .ok (.iand, 1) := by decide +kernel
theorem dX12_doing_191 : decode cX12_doing 191 = .ok (.ireturn, 1) := by decide +kernel
theorem dX12_doing_192 : decode cX12_doing 192 = .ok (.iload_n 1, 1) := by decide +kernel
theorem dX12_doing_193 : decode cX12_doing 193 = .ok (.iload_n 2, 1) := by decide +kernel
theorem dX12_doing_194 : decode cX12_doing 194 = .ok (.if_icmp .ne 7, 3) := by decide +kernel
theorem dX12_doing_197 : decode cX12_doing 197 = .ok (.iconst 1, 1) := by decide +kernel
theorem dX12_doing_198 : decode cX12_doing 198 = .ok (.goto 4, 3) := by decide +kernel
theorem dX12_doing_201 : decode cX12_doing 201 = .ok (.iconst 0, 1) := by decide +kernel
theorem dX12_doing_202 : decode cX12_doing 202 = .ok (.ireturn, 1) := by decide +kernel
theorem dX12_doing_203 : decode cX12_doing 203 = .ok (.iload_n 1, 1) := by decide +kernel
theorem dX12_doing_204 : decode cX12_doing 204 = .ok (.iload_n 2, 1) := by decide +kernel
theorem dX12_doing_205 : decode cX12_doing 205 = .ok (.if_icmp .eq 7, 3) := by decide +kernel
theorem dX12_doing_208 : decode cX12_doing 208 = .ok (.iconst 1, 1) := by decide +kernel
theorem dX12_doing_209 : decode cX12_doing 209 = .ok (.goto 4, 3) := by decide +kernel
theorem dX12_doing_212 : decode cX12_doing 212 = .ok (.iconst 0, 1) := by decide +kernel
theorem dX12_doing_213 : decode cX12_doing 213 = .ok (.ireturn, 1) := by decide +kernel
theorem dX12_doing_214 : decode cX12_doing 214 = .ok (.iload_n 1, 1) := by decide +kernel
theorem dX12_doing_215 : decode cX12_doing 215 = .ok (.iload_n 2, 1) := by decide +kernel
theorem dX12_doing_216 : decode cX12_doing 216 = .ok (.if_icmp .ge 7, 3) := by decide +kernel
theorem dX12_doing_219 : decode cX12_doing 219 = .ok (.iconst 1, 1) := by decide +kernel
theorem dX12_doing_220 : decode cX12_doing 220 = .ok (.goto 4, 3) := by decide +kernel
theorem dX12_doing_223 : decode cX12_doing 223 = .ok (.iconst 0, 1) := by decide +kernel
theorem dX12_doing_224 : decode cX12_doing 224 = .ok (.ireturn, 1) := by decide +kernel
theorem dX12_doing_225 : decode cX12_doing 225 = .ok (.iload_n 1, 1) := by decide +kernel
theorem dX12_doing_226 : decode cX12_doing 226 = .ok (.iload_n 2, 1) := by decide +kernel
theorem dX12_doing_227 : decode cX12_doing 227 = .ok (.if_icmp .gt 7, 3) := by decide +kernel
theorem dX12_doing_230 : decode cX12_doing 230 = .ok (.iconst 1, 1) := by decide +kernel
theorem dX12_doing_231 : decode cX12_doing 231 = .ok (.goto 4, 3) := by decide +kernel
theorem dX12_doing_234 : decode cX12_doing 234 = .ok (.iconst 0, 1) := by decide +kernel
theorem dX12_doing_235 : decode cX12_doing 235 = .ok (.ireturn, 1) := by decide +kernel
theorem dX12_doing_236 : decode cX12_doing 236 = .ok (.iload_n 1, 1) := by decide +kernel
theorem dX12_doing_237 : decode cX12_doing 237 = .ok (.iload_n 2, 1) := by decide +kernel
theorem dX12_doing_238 : decode cX12_doing 238 = .ok (.if_icmp .le 7, 3) := by decide +kernel
theorem dX12_doing_241 : decode cX12_doing 241 = .ok (.iconst 1, 1) := by decide +kernel
theorem dX12_doing_242 : decode cX12_doing 242 = .ok (.goto 4, 3) := by decide +kernel
theorem dX12_doing_245 : decode cX12_doing 245 = .ok (.iconst 0, 1) := by decide +kernel
theorem dX12_doing_246 : decode cX12_doing 246 = .ok (.ireturn, 1) := by decide +kernel
theorem dX12_doing_247 : decode cX12_doing 247 = .ok (.iload_n 1, 1) := by decide +kernel
theorem dX12_doing_248 : decode cX12_doing 248 = .ok (.iload_n 2, 1) := by decide +kernel
theorem dX12_doing_249 : decode cX12_doing 249 = .ok (.if_icmp .lt 7, 3) := by decide +kernel
theorem dX12_doing_252 : decode cX12_doing 252 = .ok (.iconst 1, 1) := by decide +kernel
theorem dX12_doing_253 : decode cX12_doing 253 = .ok (.goto 4, 3) := by decide +kernel
theorem dX12_doing_256 : decode cX12_doing 256 = .ok (.iconst 0, 1) := by decide +kernel
theorem dX12_doing_257 : decode cX12_doing 257 = .ok (.ireturn, 1) := by decide +kernel
theorem dX12_doing_258 : decode cX12_doing 258 = .ok (.iload_n 1, 1) := by decide +kernel
theorem dX12_doing_259 : decode cX12_doing 259 = .ok (.iload_n 2, 1) := by decide +kernel
theorem dX12_doing_260 : decode cX12_doing 260 = .ok (.bipush 31, 2) := by decide +kernel
theorem dX12_doing_262 : decode cX12_doing 262 = .ok (.iand, 1) := by decide +kernel
theorem dX12_doing_263 : decode cX12_doing 263 = .ok (.ishl, 1) := by decide +kernel
theorem dX12_doing_264 : decode cX12_doing 264 = .ok (.ireturn, 1) := by decide +kernel
theorem dX12_doing_265 : decode cX12_doing 265 = .ok (.iload_n 1, 1) := by decide +kernel
theorem dX12_doing_266 : decode cX12_doing 266 = .ok (.iload_n 2, 1) := by decide +kernel
theorem dX12_doing_267 : decode cX12_doing 267 = .ok (.bipush 31, 2) := by decide +kernel
theorem dX12_doing_269 : decode cX12_doing 269 = .ok (.iand, 1) := by decide +kernel
theorem dX12_doing_270 : decode cX12_doing 270 = .ok (.ishr, 1) := by decide +kernel
theorem dX12_doing_271 : decode cX12_doing 271 = .ok (.ireturn, 1) := by decide +kernel
theorem dX12_doing_272 : decode cX12_doing 272 = .ok (.iload_n 1, 1) := by decide +kernel
theorem dX12_doing_273 : decode cX12_doing 273 = .ok (.iload_n 2, 1) := by decide +kernel
theorem dX12_doing_274 : decode cX12_doing 274 = .ok (.bipush 31, 2) := by decide +kernel
theorem dX12_doing_276 : decode cX12_doing 276 = .ok (.iand, 1) := by decide +kernel
theorem dX12_doing_277 : decode cX12_doing 277 = .ok (.iushr, 1) := by decide +kernel
theorem dX12_doing_278 : decode cX12_doing 278 = .ok (.ireturn, 1) := by decide +kernel
theorem dX12_doing_279 : decode cX12_doing 279 = .ok (.iload_n 1, 1) := by decide +kernel
theorem dX12_doing_280 : decode cX12_doing 280 = .ok (.iload_n 2, 1) := by decide +kernel
theorem dX12_doing_281 : decode cX12_doing 281 = .ok (.iadd, 1) := by decide +kernel
theorem dX12_doing_282 : decode cX12_doing 282 = .ok (.ireturn, 1) := by decide +kernel
theorem dX12_doing_283 : decode cX12_doing 283 = .ok (.iload_n 1, 1) := by decide +kernel
theorem dX12_doing_284 : decode cX12_doing 284 = .ok (.iload_n 2, 1) := by decide +kernel
theorem dX12_doing_285 : decode cX12_doing 285 = .ok (.isub, 1) := by decide +kernel
theorem dX12_doing_286 : decode cX12_doing 286 = .ok (.ireturn, 1) := by decide +kernel
theorem dX12_doing_287 : decode cX12_doing 287 = .ok (.iload_n 1, 1) := by decide +kernel
theorem dX12_doing_288 : decode cX12_doing 288 = .ok (.iload_n 2, 1) := by decide +kernel
theorem dX12_doing_289 : decode cX12_doing 289 = .ok (.imul, 1) := by decide +kernel
theorem dX12_doing_290 : decode cX12_doing 290 = .ok (.ireturn, 1) := by decide +kernel
theorem dX12_doing_291 : decode cX12_doing 291 = .ok (.iload_n 1, 1) := by decide +kernel
theorem dX12_doing_292 : decode cX12_doing 292 = .ok (.iload_n 2, 1) := by decide +kernel
theorem dX12_doing_293 : decode cX12_doing 293 = .ok (.invokestatic 491, 3) := by decide +kernel
theorem dX12_doing_296 : decode cX12_doing 296 = .ok (.ireturn, 1) := by decide +kernel
theorem dX12_doing_297 : decode cX12_doing 297 = .ok (.iload_n 1, 1) := by decide +kernel
theorem dX12_doing_298 : decode cX12_doing 298 = .ok (.iload_n 2, 1) := by decide +kernel
theorem dX12_doing_299 : decode cX12_doing 299 = .ok (.invokestatic 494, 3) := by decide +kernel
theorem dX12_doing_302 : decode cX12_doing 302 = .ok (.ireturn, 1) := by decide +kernel
theorem dX12_alone_0 : decode cX12_alone 0 = .ok (.iload_n 0, 1) := by decide +kernel
theorem dX12_alone_1 : decode cX12_alone 1 = .ok (.bipush 39, 2) := by decide +kernel
theorem dX12_alone_3 : decode cX12_alone 3 = .ok (.if_icmp .ne 8, 3) := by decide +kernel
theorem dX12_alone_6 : decode cX12_alone 6 = .ok (.iload_n 1, 1) := by decide +kernel
theorem dX12_alone_7 : decode cX12_alone 7 = .ok (.ineg, 1) := by decide +kernel
theorem dX12_alone_8 : decode cX12_alone 8 = .ok (.goto 24, 3) := by decide +kernel
theorem dX12_alone_11 : decode cX12_alone 11 = .ok (.iload_n 0, 1) := by decide +kernel
theorem dX12_alone_12 : decode cX12_alone 12 = .ok (.bipush 43, 2) := by decide +kernel
theorem dX12_alone_14 : decode cX12_alone 14 = .ok (.if_icmp .ne 9, 3) := by decide +kernel
theorem dX12_alone_17 : decode cX12_alone 17 = .ok (.iload_n 1, 1) := by decide +kernel
theorem dX12_alone_18 : decode cX12_alone 18 = .ok (.iconst (-1), 1) := by decide +kernel
theorem dX12_alone_19 : decode cX12_alone 19 = .ok (.ixor, 1) := by decide +kernel
theorem dX12_alone_20 : decode cX12_alone 20 = .ok (.goto 12, 3) := by decide +kernel
theorem dX12_alone_23 : decode cX12_alone 23 = .ok (.iload_n 1, 1) := by decide +kernel
theorem dX12_alone_24 : decode cX12_alone 24 = .ok (.ifCond .ne 7, 3) := by decide +kernel
theorem dX12_alone_27 : decode cX12_alone 27 = .ok (.iconst 1, 1) := by decide +kernel
theorem dX12_alone_28 : decode cX12_alone 28 = .ok (.goto 4, 3) := by decide +kernel
theorem dX12_alone_31 : decode cX12_alone 31 = .ok (.iconst 0, 1) := by decide +kernel
theorem dX12_alone_32 : decode cX12_alone 32 = .ok (.ireturn, 1) := by decide +kernel
theorem dX12_plainly_0 : decode cX12_plainly 0 = .ok (.aload_n 0, 1) := by decide +kernel
theorem dX12_plainly_1 : decode cX12_plainly 1 = .ok (.getfield 107, 3) := by decide +kernel
theorem dX12_plainly_4 : decode cX12_plainly 4 = .ok (.iload_n 1, 1) := by decide +kernel
theorem dX12_plainly_5 : decode cX12_plainly 5 = .ok (.iaload, 1) := by decide +kernel
theorem dX12_plainly_6 : decode cX12_plainly 6 = .ok (.istore_n 2, 1) := by decide +kernel
theorem dX12_plainly_7 : decode cX12_plainly 7 = .ok (.aload_n 0, 1) := by decide +kernel
theorem dX12_plainly_8 : decode cX12_plainly 8 = .ok (.getfield 104, 3) := by decide +kernel
theorem dX12_plainly_11 : decode cX12_plainly 11 = .ok (.iload_n 1, 1) := by decide +kernel
theorem dX12_plainly_12 : decode cX12_plainly 12 = .ok (.iaload, 1) := by decide +kernel
theorem dX12_plainly_13 : decode cX12_plainly 13 = .ok (.lookupswitch 228 #[(0, 59), (10, 83), (11, 132), (12, 196), (14, 198), (23, 162)], 59) := by decide +kernel
theorem dX12_plainly_72 : decode cX12_plainly 72 = .ok (.aload_n 0, 1) := by decide +kernel
theorem dX12_plainly_73 : decode cX12_plainly 73 = .ok (.getfield 126, 3) := by decide +kernel
theorem dX12_plainly_76 : decode cX12_plainly 76 = .ok (.aload_n 0, 1) := by decide +kernel
theorem dX12_plainly_77 : decode cX12_plainly 77 = .ok (.getfield 497, 3) := by decide +kernel
theorem dX12_plainly_80 : decode cX12_plainly 80 = .ok (.iload_n 2, 1) := by decide +kernel
theorem dX12_plainly_81 : decode cX12_plainly 81 = .ok (.iastore, 1) := by decide +kernel
theorem dX12_plainly_82 : decode cX12_plainly 82 = .ok (.aload_n 0, 1) := by decide +kernel
theorem dX12_plainly_83 : decode cX12_plainly 83 = .ok (.dup, 1) := by decide +kernel
theorem dX12_plainly_84 : decode cX12_plainly 84 = .ok (.getfield 497, 3) := by decide +kernel
theorem dX12_plainly_87 : decode cX12_plainly 87 = .ok (.iconst 1, 1) := by decide +kernel
theorem dX12_plainly_88 : decode cX12_plainly 88 = .ok (.iadd, 1) := by decide +kernel
theorem dX12_plainly_89 : decode cX12_plainly 89 = .ok (.putfield 497, 3) := by decide +kernel
theorem dX12_plainly_92 : decode cX12_plainly 92 = .ok (.iload_n 1, 1) := by decide +kernel
theorem dX12_plainly_93 : decode cX12_plainly 93 = .ok (.iconst 1, 1) := by decide +kernel
theorem dX12_plainly_94 : decode cX12_plainly 94 = .ok (.iadd, 1) := by decide +kernel
theorem dX12_plainly_95 : decode cX12_plainly 95 = .ok (.ireturn, 1) := by decide +kernel
theorem dX12_plainly_96 : decode cX12_plainly 96 = .ok (.aload_n 0, 1) := by decide +kernel
theorem dX12_plainly_97 : decode cX12_plainly 97 = .ok (.dup, 1) := by decide +kernel
theorem dX12_plainly_98 : decode cX12_plainly 98 = .ok (.getfield 497, 3) := by decide +kernel
theorem dX12_plainly_101 : decode cX12_plainly 101 = .ok (.iconst 1, 1) := by decide +kernel
theorem dX12_plainly_102 : decode cX12_plainly 102 = .ok (.isub, 1) := by decide +kernel
theorem dX12_plainly_103 : decode cX12_plainly 103 = .ok (.putfield 497, 3) := by decide +kernel
theorem dX12_plainly_106 : decode cX12_plainly 106 = .ok (.aload_n 0, 1) := by decide +kernel
theorem dX12_plainly_107 : decode cX12_plainly 107 = .ok (.getfield 126, 3) := by decide +kernel
theorem dX12_plainly_110 : decode cX12_plainly 110 = .ok (.aload_n 0, 1) := by decide +kernel
theorem dX12_plainly_111 : decode cX12_plainly 111 = .ok (.getfield 497, 3) := by decide +kernel
theorem dX12_plainly_114 : decode cX12_plainly 114 = .ok (.iconst 1, 1) := by decide +kernel
theorem dX12_plainly_115 : decode cX12_plainly 115 = .ok (.isub, 1) := by decide +kernel
theorem dX12_plainly_116 : decode cX12_plainly 116 = .ok (.iload_n 2, 1) := by decide +kernel
theorem dX12_plainly_117 : decode cX12_plainly 117 = .ok (.aload_n 0, 1) := by decide +kernel
theorem dX12_plainly_118 : decode cX12_plainly 118 = .ok (.getfield 126, 3) := by decide +kernel
theorem dX12_plainly_121 : decode cX12_plainly 121 = .ok (.aload_n 0, 1) := by decide +kernel
theorem dX12_plainly_122 : decode cX12_plainly 122 = .ok (.getfield 497, 3) := by decide +kernel
theorem dX12_plainly_125 : decode cX12_plainly 125 = .ok (.iconst 1, 1) := by decide +kernel
theorem dX12_plainly_126 : decode cX12_plainly 126 = .ok (.isub, 1) := by decide +kernel
theorem dX12_plainly_127 : decode cX12_plainly 127 = .ok (.iaload, 1) := by decide +kernel
theorem dX12_plainly_128 : decode cX12_plainly 128 = .ok (.aload_n 0, 1) := by decide +kernel
theorem dX12_plainly_129 : decode cX12_plainly 129 = .ok (.getfield 126, 3) := by decide +kernel
theorem dX12_plainly_132 : decode cX12_plainly 132 = .ok (.aload_n 0, 1) := by decide +kernel
theorem dX12_plainly_133 : decode cX12_plainly 133 = .ok (.getfield 497, 3) := by decide +kernel
theorem dX12_plainly_136 : decode cX12_plainly 136 = .ok (.iaload, 1) := by decide +kernel
theorem dX12_plainly_137 : decode cX12_plainly 137 = .ok (.invokestatic 500, 3) := by decide +kernel
theorem dX12_plainly_140 : decode cX12_plainly 140 = .ok (.iastore, 1) := by decide +kernel
theorem dX12_plainly_141 : decode cX12_plainly 141 = .ok (.iload_n 1, 1) := by decide +kernel
theorem dX12_plainly_142 : decode cX12_plainly 142 = .ok (.iconst 1, 1) := by decide +kernel
theorem dX12_plainly_143 : decode cX12_plainly 143 = .ok (.iadd, 1) := by decide +kernel
theorem dX12_plainly_144 : decode cX12_plainly 144 = .ok (.ireturn, 1) := by decide +kernel
theorem dX12_plainly_145 : decode cX12_plainly 145 = .ok (.aload_n 0, 1) := by decide +kernel
theorem dX12_plainly_146 : decode cX12_plainly 146 = .ok (.getfield 126, 3) := by decide +kernel
theorem dX12_plainly_149 : decode cX12_plainly 149 = .ok (.aload_n 0, 1) := by decide +kernel
theorem dX12_plainly_150 : decode cX12_plainly 150 = .ok (.getfield 497, 3) := by decide +kernel
theorem dX12_plainly_153 : decode cX12_plainly 153 = .ok (.iconst 1, 1) := by decide +kernel
theorem dX12_plainly_154 : decode cX12_plainly 154 = .ok (.isub, 1) := by decide +kernel
theorem dX12_plainly_155 : decode cX12_plainly 155 = .ok (.iload_n 2, 1) := by decide +kernel
theorem dX12_plainly_156 : decode cX12_plainly 156 = .ok (.aload_n 0, 1) := by decide +kernel
theorem dX12_plainly_157 : decode cX12_plainly 157 = .ok (.getfield 126, 3) := by decide +kernel
theorem dX12_plainly_160 : decode cX12_plainly 160 = .ok (.aload_n 0, 1) := by decide +kernel
theorem dX12_plainly_161 : decode cX12_plainly 161 = .ok (.getfield 497, 3) := by decide +kernel
theorem dX12_plainly_164 : decode cX12_plainly 164 = .ok (.iconst 1, 1) := by decide +kernel
theorem dX12_plainly_165 : decode cX12_plainly 165 = .ok (.isub, 1) := by decide +kernel
theorem dX12_plainly_166 : decode cX12_plainly 166 = .ok (.iaload, 1) := by decide +kernel
theorem dX12_plainly_167 : decode cX12_plainly 167 = .ok (.invokestatic 503, 3) := by decide +kernel
theorem dX12_plainly_170 : decode cX12_plainly 170 = .ok (.iastore, 1) := by decide +kernel
theorem dX12_plainly_171 : decode cX12_plainly 171 = .ok (.iload_n 1, 1) := by decide +kernel
theorem dX12_plainly_172 : decode cX12_plainly 172 = .ok (.iconst 1, 1) := by decide +kernel
theorem dX12_plainly_173 : decode cX12_plainly 173 = .ok (.iadd, 1) := by decide +kernel
theorem dX12_plainly_174 : decode cX12_plainly 174 = .ok (.ireturn, 1) := by decide +kernel
theorem dX12_plainly_175 : decode cX12_plainly 175 = .ok (.aload_n 0, 1) := by decide +kernel
theorem dX12_plainly_176 : decode cX12_plainly 176 = .ok (.getfield 126, 3) := by decide +kernel
theorem dX12_plainly_179 : decode cX12_plainly 179 = .ok (.aload_n 0, 1) := by decide +kernel
theorem dX12_plainly_180 : decode cX12_plainly 180 = .ok (.getfield 497, 3) := by decide +kernel
theorem dX12_plainly_183 : decode cX12_plainly 183 = .ok (.iconst 1, 1) := by decide +kernel
theorem dX12_plainly_184 : decode cX12_plainly 184 = .ok (.isub, 1) := by decide +kernel
theorem dX12_plainly_185 : decode cX12_plainly 185 = .ok (.aload_n 0, 1) := by decide +kernel
theorem dX12_plainly_186 : decode cX12_plainly 186 = .ok (.getfield 126, 3) := by decide +kernel
theorem dX12_plainly_189 : decode cX12_plainly 189 = .ok (.aload_n 0, 1) := by decide +kernel
theorem dX12_plainly_190 : decode cX12_plainly 190 = .ok (.getfield 497, 3) := by decide +kernel
theorem dX12_plainly_193 : decode cX12_plainly 193 = .ok (.iconst 1, 1) := by decide +kernel
theorem dX12_plainly_194 : decode cX12_plainly 194 = .ok (.isub, 1) := by decide +kernel
theorem dX12_plainly_195 : decode cX12_plainly 195 = .ok (.iaload, 1) := by decide +kernel
theorem dX12_plainly_196 : decode cX12_plainly 196 = .ok (.ifCond .eq 7, 3) := by decide +kernel
theorem dX12_plainly_199 : decode cX12_plainly 199 = .ok (.iconst 1, 1) := by decide +kernel
theorem dX12_plainly_200 : decode cX12_plainly 200 = .ok (.goto 4, 3) := by decide +kernel
theorem dX12_plainly_203 : decode cX12_plainly 203 = .ok (.iconst 0, 1) := by decide +kernel
theorem dX12_plainly_204 : decode cX12_plainly 204 = .ok (.iastore, 1) := by decide +kernel
theorem dX12_plainly_205 : decode cX12_plainly 205 = .ok (.iload_n 1, 1) := by decide +kernel
theorem dX12_plainly_206 : decode cX12_plainly 206 = .ok (.iconst 1, 1) := by decide +kernel
theorem dX12_plainly_207 : decode cX12_plainly 207 = .ok (.iadd, 1) := by decide +kernel
theorem dX12_plainly_208 : decode cX12_plainly 208 = .ok (.ireturn, 1) := by decide +kernel
theorem dX12_plainly_209 : decode cX12_plainly 209 = .ok (.iload_n 2, 1) := by decide +kernel
theorem dX12_plainly_210 : decode cX12_plainly 210 = .ok (.ireturn, 1) := by decide +kernel
theorem dX12_plainly_211 : decode cX12_plainly 211 = .ok (.aload_n 0, 1) := by decide +kernel
theorem dX12_plainly_212 : decode cX12_plainly 212 = .ok (.dup, 1) := by decide +kernel
theorem dX12_plainly_213 : decode cX12_plainly 213 = .ok (.getfield 497, 3) := by decide +kernel
theorem dX12_plainly_216 : decode cX12_plainly 216 = .ok (.iconst 1, 1) := by decide +kernel
theorem dX12_plainly_217 : decode cX12_plainly 217 = .ok (.isub, 1) := by decide +kernel
theorem dX12_plainly_218 : decode cX12_plainly 218 = .ok (.putfield 497, 3) := by decide +kernel
theorem dX12_plainly_221 : decode cX12_plainly 221 = .ok (.aload_n 0, 1) := by decide +kernel
theorem dX12_plainly_222 : decode cX12_plainly 222 = .ok (.getfield 126, 3) := by decide +kernel
theorem dX12_plainly_225 : decode cX12_plainly 225 = .ok (.aload_n 0, 1) := by decide +kernel
theorem dX12_plainly_226 : decode cX12_plainly 226 = .ok (.getfield 497, 3) := by decide +kernel
theorem dX12_plainly_229 : decode cX12_plainly 229 = .ok (.iaload, 1) := by decide +kernel
theorem dX12_plainly_230 : decode cX12_plainly 230 = .ok (.ifCond .eq 7, 3) := by decide +kernel
theorem dX12_plainly_233 : decode cX12_plainly 233 = .ok (.iload_n 2, 1) := by decide +kernel
theorem dX12_plainly_234 : decode cX12_plainly 234 = .ok (.goto 6, 3) := by decide +kernel
theorem dX12_plainly_237 : decode cX12_plainly 237 = .ok (.iload_n 1, 1) := by decide +kernel
theorem dX12_plainly_238 : decode cX12_plainly 238 = .ok (.iconst 1, 1) := by decide +kernel
theorem dX12_plainly_239 : decode cX12_plainly 239 = .ok (.iadd, 1) := by decide +kernel
theorem dX12_plainly_240 : decode cX12_plainly 240 = .ok (.ireturn, 1) := by decide +kernel
theorem dX12_plainly_241 : decode cX12_plainly 241 = .ok (.aload_n 0, 1) := by decide +kernel
theorem dX12_plainly_242 : decode cX12_plainly 242 = .ok (.dup, 1) := by decide +kernel
theorem dX12_plainly_243 : decode cX12_plainly 243 = .ok (.getfield 497, 3) := by decide +kernel
theorem dX12_plainly_246 : decode cX12_plainly 246 = .ok (.iconst 1, 1) := by decide +kernel
theorem dX12_plainly_247 : decode cX12_plainly 247 = .ok (.isub, 1) := by decide +kernel
theorem dX12_plainly_248 : decode cX12_plainly 248 = .ok (.putfield 497, 3) := by decide +kernel
theorem dX12_plainly_251 : decode cX12_plainly 251 = .ok (.aload_n 0, 1) := by decide +kernel
theorem dX12_plainly_252 : decode cX12_plainly 252 = .ok (.getfield 126, 3) := by decide +kernel
theorem dX12_plainly_255 : decode cX12_plainly 255 = .ok (.aload_n 0, 1) := by decide +kernel
theorem dX12_plainly_256 : decode cX12_plainly 256 = .ok (.getfield 497, 3) := by decide +kernel
theorem dX12_plainly_259 : decode cX12_plainly 259 = .ok (.iaload, 1) := by decide +kernel
theorem dX12_plainly_260 : decode cX12_plainly 260 = .ok (.ifCond .ne 7, 3) := by decide +kernel
theorem dX12_plainly_263 : decode cX12_plainly 263 = .ok (.iload_n 2, 1) := by decide +kernel
theorem dX12_plainly_264 : decode cX12_plainly 264 = .ok (.goto 6, 3) := by decide +kernel
theorem dX12_plainly_267 : decode cX12_plainly 267 = .ok (.iload_n 1, 1) := by decide +kernel
theorem dX12_plainly_268 : decode cX12_plainly 268 = .ok (.iconst 1, 1) := by decide +kernel
theorem dX12_plainly_269 : decode cX12_plainly 269 = .ok (.iadd, 1) := by decide +kernel
theorem dX12_plainly_270 : decode cX12_plainly 270 = .ok (.ireturn, 1) := by decide +kernel
theorem dX12_reckon_0 : decode cX12_reckon 0 = .ok (.aload_n 0, 1) := by decide +kernel
theorem dX12_reckon_1 : decode cX12_reckon 1 = .ok (.iconst 0, 1) := by decide +kernel
theorem dX12_reckon_2 : decode cX12_reckon 2 = .ok (.putfield 497, 3) := by decide +kernel
theorem dX12_reckon_5 : decode cX12_reckon 5 = .ok (.iload_n 1, 1) := by decide +kernel
theorem dX12_reckon_6 : decode cX12_reckon 6 = .ok (.istore_n 2, 1) := by decide +kernel
theorem dX12_reckon_7 : decode cX12_reckon 7 = .ok (.iload_n 2, 1) := by decide +kernel
theorem dX12_reckon_8 : decode cX12_reckon 8 = .ok (.aload_n 0, 1) := by decide +kernel
theorem dX12_reckon_9 : decode cX12_reckon 9 = .ok (.getfield 276, 3) := by decide +kernel
theorem dX12_reckon_12 : decode cX12_reckon 12 = .ok (.if_icmp .ge 12, 3) := by decide +kernel
theorem dX12_reckon_15 : decode cX12_reckon 15 = .ok (.aload_n 0, 1) := by decide +kernel
theorem dX12_reckon_16 : decode cX12_reckon 16 = .ok (.iload_n 2, 1) := by decide +kernel
theorem dX12_reckon_17 : decode cX12_reckon 17 = .ok (.invokevirtual 506, 3) := by decide +kernel
theorem dX12_reckon_20 : decode cX12_reckon 20 = .ok (.istore_n 2, 1) := by decide +kernel
theorem dX12_reckon_21 : decode cX12_reckon 21 = .ok (.goto (-14), 3) := by decide +kernel
theorem dX12_reckon_24 : decode cX12_reckon 24 = .ok (.aload_n 0, 1) := by decide +kernel
theorem dX12_reckon_25 : decode cX12_reckon 25 = .ok (.getfield 126, 3) := by decide +kernel
theorem dX12_reckon_28 : decode cX12_reckon 28 = .ok (.iconst 0, 1) := by decide +kernel
theorem dX12_reckon_29 : decode cX12_reckon 29 = .ok (.iaload, 1) := by decide +kernel
theorem dX12_reckon_30 : decode cX12_reckon 30 = .ok (.ireturn, 1) := by decide +kernel
theorem dX12_read_0 : decode cX12_read 0 = .ok (.aload_n 0, 1) := by decide +kernel
theorem dX12_read_1 : decode cX12_read 1 = .ok (.aload_n 0, 1) := by decide +kernel
theorem dX12_read_2 : decode cX12_read 2 = .ok (.getfield 153, 3) := by decide +kernel
theorem dX12_read_5 : decode cX12_read 5 = .ok (.putfield 157, 3) := by decide +kernel
theorem dX12_read_8 : decode cX12_read 8 = .ok (.iconst 0, 1) := by decide +kernel
theorem dX12_read_9 : decode cX12_read 9 = .ok (.istore_n 1, 1) := by decide +kernel
theorem dX12_read_10 : decode cX12_read 10 = .ok (.iload_n 1, 1) := by decide +kernel
theorem dX12_read_11 : decode cX12_read 11 = .ok (.aload_n 0, 1) := by decide +kernel
theorem dX12_read_12 : decode cX12_read 12 = .ok (.getfield 157, 3) := by decide +kernel
theorem dX12_read_15 : decode cX12_read 15 = .ok (.if_icmp .ge 21, 3) := by decide +kernel
theorem dX12_read_18 : decode cX12_read 18 = .ok (.aload_n 0, 1) := by decide +kernel
theorem dX12_read_19 : decode cX12_read 19 = .ok (.getfield 13, 3) := by decide +kernel
theorem dX12_read_22 : decode cX12_read 22 = .ok (.iload_n 1, 1) := by decide +kernel
theorem dX12_read_23 : decode cX12_read 23 = .ok (.aload_n 0, 1) := by decide +kernel
theorem dX12_read_24 : decode cX12_read 24 = .ok (.getfield 9, 3) := by decide +kernel
theorem dX12_read_27 : decode cX12_read 27 = .ok (.iload_n 1, 1) := by decide +kernel
theorem dX12_read_28 : decode cX12_read 28 = .ok (.iaload, 1) := by decide +kernel
theorem dX12_read_29 : decode cX12_read 29 = .ok (.iastore, 1) := by decide +kernel
theorem dX12_read_30 : decode cX12_read 30 = .ok (.iinc 1 1, 3) := by decide +kernel
theorem dX12_read_33 : decode cX12_read 33 = .ok (.goto (-23), 3) := by decide +kernel
theorem dX12_read_36 : decode cX12_read 36 = .ok (.aload_n 0, 1) := by decide +kernel
theorem dX12_read_37 : decode cX12_read 37 = .ok (.iconst 0, 1) := by decide +kernel
theorem dX12_read_38 : decode cX12_read 38 = .ok (.putfield 153, 3) := by decide +kernel
theorem dX12_read_41 : decode cX12_read 41 = .ok (.aload_n 0, 1) := by decide +kernel
theorem dX12_read_42 : decode cX12_read 42 = .ok (.iconst 0, 1) := by decide +kernel
theorem dX12_read_43 : decode cX12_read 43 = .ok (.putfield 509, 3) := by decide +kernel
theorem dX12_read_46 : decode cX12_read 46 = .ok (.aload_n 0, 1) := by decide +kernel
theorem dX12_read_47 : decode cX12_read 47 = .ok (.iconst 0, 1) := by decide +kernel
theorem dX12_read_48 : decode cX12_read 48 = .ok (.putfield 512, 3) := by decide +kernel
theorem dX12_read_51 : decode cX12_read 51 = .ok (.aload_n 0, 1) := by decide +kernel
theorem dX12_read_52 : decode cX12_read 52 = .ok (.iconst 0, 1) := by decide +kernel
theorem dX12_read_53 : decode cX12_read 53 = .ok (.putfield 515, 3) := by decide +kernel
theorem dX12_read_56 : decode cX12_read 56 = .ok (.aload_n 0, 1) := by decide +kernel
theorem dX12_read_57 : decode cX12_read 57 = .ok (.iconst 0, 1) := by decide +kernel
theorem dX12_read_58 : decode cX12_read 58 = .ok (.putfield 518, 3) := by decide +kernel
theorem dX12_read_61 : decode cX12_read 61 = .ok (.aload_n 0, 1) := by decide +kernel
theorem dX12_read_62 : decode cX12_read 62 = .ok (.iconst 0, 1) := by decide +kernel
theorem dX12_read_63 : decode cX12_read 63 = .ok (.putfield 230, 3) := by decide +kernel
theorem dX12_read_66 : decode cX12_read 66 = .ok (.aload_n 0, 1) := by decide +kernel
theorem dX12_read_67 : decode cX12_read 67 = .ok (.iconst 0, 1) := by decide +kernel
theorem dX12_read_68 : decode cX12_read 68 = .ok (.putfield 248, 3) := by decide +kernel
theorem dX12_read_71 : decode cX12_read 71 = .ok (.aload_n 0, 1) := by decide +kernel
theorem dX12_read_72 : decode cX12_read 72 = .ok (.iconst 0, 1) := by decide +kernel
theorem dX12_read_73 : decode cX12_read 73 = .ok (.putfield 365, 3) := by decide +kernel
theorem dX12_read_76 : decode cX12_read 76 = .ok (.aload_n 0, 1) := by decide +kernel
theorem dX12_read_77 : decode cX12_read 77 = .ok (.invokevirtual 521, 3) := by decide +kernel
theorem dX12_read_80 : decode cX12_read 80 = .ok (.aload_n 0, 1) := by decide +kernel
theorem dX12_read_81 : decode cX12_read 81 = .ok (.iconst 0, 1) := by decide +kernel
theorem dX12_read_82 : decode cX12_read 82 = .ok (.putfield 245, 3) := by decide +kernel
theorem dX12_read_85 : decode cX12_read 85 = .ok (.aload_n 0, 1) := by decide +kernel
theorem dX12_read_86 : decode cX12_read 86 = .ok (.invokevirtual 524, 3) := by decide +kernel
theorem dX12_read_89 : decode cX12_read 89 = .ok (.ifCond .ne 16, 3) := by decide +kernel
theorem dX12_read_92 : decode cX12_read 92 = .ok (.bipush 16, 2) := by decide +kernel
theorem dX12_read_94 : decode cX12_read 94 = .ok (.aload_n 0, 1) := by decide +kernel
theorem dX12_read_95 : decode cX12_read 95 = .ok (.getfield 236, 3) := by decide +kernel
theorem dX12_read_98 : decode cX12_read 98 = .ok (.imul, 1) := by decide +kernel
theorem dX12_read_99 : decode cX12_read 99 = .ok (.aload_n 0, 1) := by decide +kernel
theorem dX12_read_100 : decode cX12_read 100 = .ok (.getfield 230, 3) := by decide +kernel
theorem dX12_read_103 : decode cX12_read 103 = .ok (.iadd, 1) := by decide +kernel
theorem dX12_read_104 : decode cX12_read 104 = .ok (.ireturn, 1) := by decide +kernel
theorem dX12_read_105 : decode cX12_read 105 = .ok (.aload_n 0, 1) := by decide +kernel
theorem dX12_read_106 : decode cX12_read 106 = .ok (.iconst 1, 1) := by decide +kernel
theorem dX12_read_107 : decode cX12_read 107 = .ok (.putfield 245, 3) := by decide +kernel
theorem dX12_read_110 : decode cX12_read 110 = .ok (.aload_n 0, 1) := by decide +kernel
theorem dX12_read_111 : decode cX12_read 111 = .ok (.invokevirtual 524, 3) := by decide +kernel
theorem dX12_read_114 : decode cX12_read 114 = .ok (.pop, 1) := by decide +kernel
theorem dX12_read_115 : decode cX12_read 115 = .ok (.aload_n 0, 1) := by decide +kernel
theorem dX12_read_116 : decode cX12_read 116 = .ok (.iconst (-1), 1) := by decide +kernel
theorem dX12_read_117 : decode cX12_read 117 = .ok (.putfield 527, 3) := by decide +kernel
theorem dX12_read_120 : decode cX12_read 120 = .ok (.aload_n 0, 1) := by decide +kernel
theorem dX12_read_121 : decode cX12_read 121 = .ok (.getfield 297, 3) := by decide +kernel
theorem dX12_read_124 : decode cX12_read 124 = .ok (.iconst 1, 1) := by decide +kernel
theorem dX12_read_125 : decode cX12_read 125 = .ok (.isub, 1) := by decide +kernel
theorem dX12_read_126 : decode cX12_read 126 = .ok (.istore_n 1, 1) := by decide +kernel
theorem dX12_read_127 : decode cX12_read 127 = .ok (.iload_n 1, 1) := by decide +kernel
theorem dX12_read_128 : decode cX12_read 128 = .ok (.ifCond .lt 112, 3) := by decide +kernel
theorem dX12_read_131 : decode cX12_read 131 = .ok (.aload_n 0, 1) := by decide +kernel
theorem dX12_read_132 : decode cX12_read 132 = .ok (.getfield 65, 3) := by decide +kernel
theorem dX12_read_135 : decode cX12_read 135 = .ok (.iload_n 1, 1) := by decide +kernel
theorem dX12_read_136 : decode cX12_read 136 = .ok (.iaload, 1) := by decide +kernel
theorem dX12_read_137 : decode cX12_read 137 = .ok (.istore_n 2, 1) := by decide +kernel
theorem dX12_read_138 : decode cX12_read 138 = .ok (.aload_n 0, 1) := by decide +kernel
theorem dX12_read_139 : decode cX12_read 139 = .ok (.getfield 28, 3) := by decide +kernel
theorem dX12_read_142 : decode cX12_read 142 = .ok (.aload_n 0, 1) := by decide +kernel
theorem dX12_read_143 : decode cX12_read 143 = .ok (.getfield 62, 3) := by decide +kernel
theorem dX12_read_146 : decode cX12_read 146 = .ok (.iload_n 1, 1) := by decide +kernel
theorem dX12_read_147 : decode cX12_read 147 = .ok (.iaload, 1) := by decide +kernel
theorem dX12_read_148 : decode cX12_read 148 = .ok (.iaload, 1) := by decide +kernel
theorem dX12_read_149 : decode cX12_read 149 = .ok (.iconst 4, 1) := by decide +kernel
theorem dX12_read_150 : decode cX12_read 150 = .ok (.if_icmp .ne 84, 3) := by decide +kernel
theorem dX12_read_153 : decode cX12_read 153 = .ok (.aload_n 0, 1) := by decide +kernel
theorem dX12_read_154 : decode cX12_read 154 = .ok (.iload_n 2, 1) := by decide +kernel
theorem dX12_read_155 : decode cX12_read 155 = .ok (.invokevirtual 177, 3) := by decide +kernel
theorem dX12_read_158 : decode cX12_read 158 = .ok (.bipush 109, 2) := by decide +kernel
theorem dX12_read_160 : decode cX12_read 160 = .ok (.if_icmp .ne 74, 3) := by decide +kernel
theorem dX12_read_163 : decode cX12_read 163 = .ok (.aload_n 0, 1) := by decide +kernel
theorem dX12_read_164 : decode cX12_read 164 = .ok (.iload_n 2, 1) := by decide +kernel
theorem dX12_read_165 : decode cX12_read 165 = .ok (.iconst 1, 1) := by decide +kernel
theorem dX12_read_166 : decode cX12_read 166 = .ok (.iadd, 1) := by decide +kernel
theorem dX12_read_167 : decode cX12_read 167 = .ok (.invokevirtual 177, 3) := by decide +kernel
theorem dX12_read_170 : decode cX12_read 170 = .ok (.bipush 97, 2) := by decide +kernel
theorem dX12_read_172 : decode cX12_read 172 = .ok (.if_icmp .ne 62, 3) := by decide +kernel
theorem dX12_read_175 : decode cX12_read 175 = .ok (.aload_n 0, 1) := by decide +kernel
theorem dX12_read_176 : decode cX12_read 176 = .ok (.iload_n 2, 1) := by decide +kernel
theorem dX12_read_177 : decode cX12_read 177 = .ok (.iconst 2, 1) := by decide +kernel
theorem dX12_read_178 : decode cX12_read 178 = .ok (.iadd, 1) := by decide +kernel
theorem dX12_read_179 : decode cX12_read 179 = .ok (.invokevirtual 177, 3) := by decide +kernel
theorem dX12_read_182 : decode cX12_read 182 = .ok (.bipush 105, 2) := by decide +kernel
theorem dX12_read_184 : decode cX12_read 184 = .ok (.if_icmp .ne 50, 3) := by decide +kernel
theorem dX12_read_187 : decode cX12_read 187 = .ok (.aload_n 0, 1) := by decide +kernel
theorem dX12_read_188 : decode cX12_read 188 = .ok (.iload_n 2, 1) := by decide +kernel
theorem dX12_read_189 : decode cX12_read 189 = .ok (.iconst 3, 1) := by decide +kernel
theorem dX12_read_190 : decode cX12_read 190 = .ok (.iadd, 1) := by decide +kernel
theorem dX12_read_191 : decode cX12_read 191 = .ok (.invokevirtual 177, 3) := by decide +kernel
theorem dX12_read_194 : decode cX12_read 194 = .ok (.bipush 110, 2) := by decide +kernel
theorem dX12_read_196 : decode cX12_read 196 = .ok (.if_icmp .eq 6, 3) := by decide +kernel
theorem dX12_read_199 : decode cX12_read 199 = .ok (.goto 35, 3) := by decide +kernel
theorem dX12_read_202 : decode cX12_read 202 = .ok (.aload_n 0, 1) := by decide +kernel
theorem dX12_read_203 : decode cX12_read 203 = .ok (.iload_n 1, 1) := by decide +kernel
theorem dX12_read_204 : decode cX12_read 204 = .ok (.putfield 527, 3) := by decide +kernel
theorem dX12_read_207 : decode cX12_read 207 = .ok (.aload_n 0, 1) := by decide +kernel
theorem dX12_read_208 : decode cX12_read 208 = .ok (.getfield 83, 3) := by decide +kernel
theorem dX12_read_211 : decode cX12_read 211 = .ok (.iload_n 1, 1) := by decide +kernel
theorem dX12_read_212 : decode cX12_read 212 = .ok (.iaload, 1) := by decide +kernel
theorem dX12_read_213 : decode cX12_read 213 = .ok (.iconst (-1), 1) := by decide +kernel
