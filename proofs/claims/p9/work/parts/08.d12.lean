theorem dX12_read_214 : decode cX12_read 214 = .ok (.if_icmp .eq 20, 3) := by decide +kernel
theorem dX12_read_217 : decode cX12_read 217 = .ok (.aload_n 0, 1) := by decide +kernel
theorem dX12_read_218 : decode cX12_read 218 = .ok (.bipush 12, 2) := by decide +kernel
theorem dX12_read_220 : decode cX12_read 220 = .ok (.aload_n 0, 1) := by decide +kernel
theorem dX12_read_221 : decode cX12_read 221 = .ok (.getfield 22, 3) := by decide +kernel
theorem dX12_read_224 : decode cX12_read 224 = .ok (.aload_n 0, 1) := by decide +kernel
theorem dX12_read_225 : decode cX12_read 225 = .ok (.getfield 83, 3) := by decide +kernel
theorem dX12_read_228 : decode cX12_read 228 = .ok (.iload_n 1, 1) := by decide +kernel
theorem dX12_read_229 : decode cX12_read 229 = .ok (.iaload, 1) := by decide +kernel
theorem dX12_read_230 : decode cX12_read 230 = .ok (.iaload, 1) := by decide +kernel
theorem dX12_read_231 : decode cX12_read 231 = .ok (.invokevirtual 352, 3) := by decide +kernel
theorem dX12_read_234 : decode cX12_read 234 = .ok (.iinc 1 (-1), 3) := by decide +kernel
theorem dX12_read_237 : decode cX12_read 237 = .ok (.goto (-110), 3) := by decide +kernel
theorem dX12_read_240 : decode cX12_read 240 = .ok (.aload_n 0, 1) := by decide +kernel
theorem dX12_read_241 : decode cX12_read 241 = .ok (.getfield 527, 3) := by decide +kernel
theorem dX12_read_244 : decode cX12_read 244 = .ok (.iconst (-1), 1) := by decide +kernel
theorem dX12_read_245 : decode cX12_read 245 = .ok (.if_icmp .ne 13, 3) := by decide +kernel
theorem dX12_read_248 : decode cX12_read 248 = .ok (.aload_n 0, 1) := by decide +kernel
theorem dX12_read_249 : decode cX12_read 249 = .ok (.bipush 12, 2) := by decide +kernel
theorem dX12_read_251 : decode cX12_read 251 = .ok (.aload_n 0, 1) := by decide +kernel
theorem dX12_read_252 : decode cX12_read 252 = .ok (.getfield 157, 3) := by decide +kernel
theorem dX12_read_255 : decode cX12_read 255 = .ok (.invokevirtual 352, 3) := by decide +kernel
theorem dX12_read_258 : decode cX12_read 258 = .ok (.aload_n 0, 1) := by decide +kernel
theorem dX12_read_259 : decode cX12_read 259 = .ok (.getfield 248, 3) := by decide +kernel
theorem dX12_read_262 : decode cX12_read 262 = .ok (.ifCond .le 16, 3) := by decide +kernel
theorem dX12_read_265 : decode cX12_read 265 = .ok (.bipush 16, 2) := by decide +kernel
theorem dX12_read_267 : decode cX12_read 267 = .ok (.aload_n 0, 1) := by decide +kernel
theorem dX12_read_268 : decode cX12_read 268 = .ok (.getfield 251, 3) := by decide +kernel
theorem dX12_read_271 : decode cX12_read 271 = .ok (.imul, 1) := by decide +kernel
theorem dX12_read_272 : decode cX12_read 272 = .ok (.aload_n 0, 1) := by decide +kernel
theorem dX12_read_273 : decode cX12_read 273 = .ok (.getfield 248, 3) := by decide +kernel
theorem dX12_read_276 : decode cX12_read 276 = .ok (.iadd, 1) := by decide +kernel
theorem dX12_read_277 : decode cX12_read 277 = .ok (.ireturn, 1) := by decide +kernel
theorem dX12_read_278 : decode cX12_read 278 = .ok (.aload_n 0, 1) := by decide +kernel
theorem dX12_read_279 : decode cX12_read 279 = .ok (.iconst 1, 1) := by decide +kernel
theorem dX12_read_280 : decode cX12_read 280 = .ok (.putfield 509, 3) := by decide +kernel
theorem dX12_read_283 : decode cX12_read 283 = .ok (.iconst 0, 1) := by decide +kernel
theorem dX12_read_284 : decode cX12_read 284 = .ok (.ireturn, 1) := by decide +kernel
theorem dX12_look_0 : decode cX12_look 0 = .ok (.aload_n 0, 1) := by decide +kernel
theorem dX12_look_1 : decode cX12_look 1 = .ok (.getfield 509, 3) := by decide +kernel
theorem dX12_look_4 : decode cX12_look 4 = .ok (.ifCond .ne 5, 3) := by decide +kernel
theorem dX12_look_7 : decode cX12_look 7 = .ok (.iconst (-1), 1) := by decide +kernel
theorem dX12_look_8 : decode cX12_look 8 = .ok (.ireturn, 1) := by decide +kernel
theorem dX12_look_9 : decode cX12_look 9 = .ok (.iload_n 1, 1) := by decide +kernel
theorem dX12_look_10 : decode cX12_look 10 = .ok (.ifCond .ne 8, 3) := by decide +kernel
theorem dX12_look_13 : decode cX12_look 13 = .ok (.aload_n 0, 1) := by decide +kernel
theorem dX12_look_14 : decode cX12_look 14 = .ok (.getfield 297, 3) := by decide +kernel
theorem dX12_look_17 : decode cX12_look 17 = .ok (.ireturn, 1) := by decide +kernel
theorem dX12_look_18 : decode cX12_look 18 = .ok (.iload_n 1, 1) := by decide +kernel
theorem dX12_look_19 : decode cX12_look 19 = .ok (.iconst 1, 1) := by decide +kernel
theorem dX12_look_20 : decode cX12_look 20 = .ok (.if_icmp .ne 8, 3) := by decide +kernel
theorem dX12_look_23 : decode cX12_look 23 = .ok (.aload_n 0, 1) := by decide +kernel
theorem dX12_look_24 : decode cX12_look 24 = .ok (.getfield 288, 3) := by decide +kernel
theorem dX12_look_27 : decode cX12_look 27 = .ok (.ireturn, 1) := by decide +kernel
theorem dX12_look_28 : decode cX12_look 28 = .ok (.iload_n 1, 1) := by decide +kernel
theorem dX12_look_29 : decode cX12_look 29 = .ok (.ifCond .lt 20, 3) := by decide +kernel
theorem dX12_look_32 : decode cX12_look 32 = .ok (.iload_n 1, 1) := by decide +kernel
theorem dX12_look_33 : decode cX12_look 33 = .ok (.iconst 5, 1) := by decide +kernel
theorem dX12_look_34 : decode cX12_look 34 = .ok (.if_icmp .gt 15, 3) := by decide +kernel
theorem dX12_look_37 : decode cX12_look 37 = .ok (.iload_n 2, 1) := by decide +kernel
theorem dX12_look_38 : decode cX12_look 38 = .ok (.ifCond .lt 11, 3) := by decide +kernel
theorem dX12_look_41 : decode cX12_look 41 = .ok (.iload_n 2, 1) := by decide +kernel
theorem dX12_look_42 : decode cX12_look 42 = .ok (.aload_n 0, 1) := by decide +kernel
theorem dX12_look_43 : decode cX12_look 43 = .ok (.getfield 297, 3) := by decide +kernel
theorem dX12_look_46 : decode cX12_look 46 = .ok (.if_icmp .lt 5, 3) := by decide +kernel
theorem dX12_look_49 : decode cX12_look 49 = .ok (.iconst (-1), 1) := by decide +kernel
theorem dX12_look_50 : decode cX12_look 50 = .ok (.ireturn, 1) := by decide +kernel
theorem dX12_look_51 : decode cX12_look 51 = .ok (.iload_n 1, 1) := by decide +kernel
theorem dX12_look_52 : decode cX12_look 52 = .ok (.iconst 2, 1) := by decide +kernel
theorem dX12_look_53 : decode cX12_look 53 = .ok (.if_icmp .ne 12, 3) := by decide +kernel
theorem dX12_look_56 : decode cX12_look 56 = .ok (.aload_n 0, 1) := by decide +kernel
theorem dX12_look_57 : decode cX12_look 57 = .ok (.getfield 65, 3) := by decide +kernel
theorem dX12_look_60 : decode cX12_look 60 = .ok (.iload_n 2, 1) := by decide +kernel
theorem dX12_look_61 : decode cX12_look 61 = .ok (.iaload, 1) := by decide +kernel
theorem dX12_look_62 : decode cX12_look 62 = .ok (.goto 45, 3) := by decide +kernel
theorem dX12_look_65 : decode cX12_look 65 = .ok (.iload_n 1, 1) := by decide +kernel
theorem dX12_look_66 : decode cX12_look 66 = .ok (.iconst 3, 1) := by decide +kernel
theorem dX12_look_67 : decode cX12_look 67 = .ok (.if_icmp .ne 12, 3) := by decide +kernel
theorem dX12_look_70 : decode cX12_look 70 = .ok (.aload_n 0, 1) := by decide +kernel
theorem dX12_look_71 : decode cX12_look 71 = .ok (.getfield 68, 3) := by decide +kernel
theorem dX12_look_74 : decode cX12_look 74 = .ok (.iload_n 2, 1) := by decide +kernel
theorem dX12_look_75 : decode cX12_look 75 = .ok (.iaload, 1) := by decide +kernel
theorem dX12_look_76 : decode cX12_look 76 = .ok (.goto 31, 3) := by decide +kernel
theorem dX12_look_79 : decode cX12_look 79 = .ok (.iload_n 1, 1) := by decide +kernel
theorem dX12_look_80 : decode cX12_look 80 = .ok (.iconst 4, 1) := by decide +kernel
theorem dX12_look_81 : decode cX12_look 81 = .ok (.if_icmp .ne 12, 3) := by decide +kernel
theorem dX12_look_84 : decode cX12_look 84 = .ok (.aload_n 0, 1) := by decide +kernel
theorem dX12_look_85 : decode cX12_look 85 = .ok (.getfield 71, 3) := by decide +kernel
theorem dX12_look_88 : decode cX12_look 88 = .ok (.iload_n 2, 1) := by decide +kernel
theorem dX12_look_89 : decode cX12_look 89 = .ok (.iaload, 1) := by decide +kernel
theorem dX12_look_90 : decode cX12_look 90 = .ok (.goto 17, 3) := by decide +kernel
theorem dX12_look_93 : decode cX12_look 93 = .ok (.aload_n 0, 1) := by decide +kernel
theorem dX12_look_94 : decode cX12_look 94 = .ok (.getfield 86, 3) := by decide +kernel
theorem dX12_look_97 : decode cX12_look 97 = .ok (.iload_n 2, 1) := by decide +kernel
theorem dX12_look_98 : decode cX12_look 98 = .ok (.baload, 1) := by decide +kernel
theorem dX12_look_99 : decode cX12_look 99 = .ok (.ifCond .eq 7, 3) := by decide +kernel
theorem dX12_look_102 : decode cX12_look 102 = .ok (.iconst 0, 1) := by decide +kernel
theorem dX12_look_103 : decode cX12_look 103 = .ok (.goto 4, 3) := by decide +kernel
theorem dX12_look_106 : decode cX12_look 106 = .ok (.iconst 1, 1) := by decide +kernel
theorem dX12_look_107 : decode cX12_look 107 = .ok (.ireturn, 1) := by decide +kernel
theorem dX12_give_0 : decode cX12_give 0 = .ok (.aload_n 0, 1) := by decide +kernel
theorem dX12_give_1 : decode cX12_give 1 = .ok (.getfield 509, 3) := by decide +kernel
theorem dX12_give_4 : decode cX12_give 4 = .ok (.ifCond .eq 13, 3) := by decide +kernel
theorem dX12_give_7 : decode cX12_give 7 = .ok (.aload_n 0, 1) := by decide +kernel
theorem dX12_give_8 : decode cX12_give 8 = .ok (.getfield 515, 3) := by decide +kernel
theorem dX12_give_11 : decode cX12_give 11 = .ok (.sipush 500, 3) := by decide +kernel
theorem dX12_give_14 : decode cX12_give 14 = .ok (.if_icmp .ne 5, 3) := by decide +kernel
theorem dX12_give_17 : decode cX12_give 17 = .ok (.iconst (-1), 1) := by decide +kernel
theorem dX12_give_18 : decode cX12_give 18 = .ok (.ireturn, 1) := by decide +kernel
theorem dX12_give_19 : decode cX12_give 19 = .ok (.aload_n 0, 1) := by decide +kernel
theorem dX12_give_20 : decode cX12_give 20 = .ok (.getfield 129, 3) := by decide +kernel
theorem dX12_give_23 : decode cX12_give 23 = .ok (.aload_n 0, 1) := by decide +kernel
theorem dX12_give_24 : decode cX12_give 24 = .ok (.getfield 515, 3) := by decide +kernel
theorem dX12_give_27 : decode cX12_give 27 = .ok (.iload_n 1, 1) := by decide +kernel
theorem dX12_give_28 : decode cX12_give 28 = .ok (.iastore, 1) := by decide +kernel
theorem dX12_give_29 : decode cX12_give 29 = .ok (.aload_n 0, 1) := by decide +kernel
theorem dX12_give_30 : decode cX12_give 30 = .ok (.dup, 1) := by decide +kernel
theorem dX12_give_31 : decode cX12_give 31 = .ok (.getfield 515, 3) := by decide +kernel
theorem dX12_give_34 : decode cX12_give 34 = .ok (.iconst 1, 1) := by decide +kernel
theorem dX12_give_35 : decode cX12_give 35 = .ok (.iadd, 1) := by decide +kernel
theorem dX12_give_36 : decode cX12_give 36 = .ok (.putfield 515, 3) := by decide +kernel
theorem dX12_give_39 : decode cX12_give 39 = .ok (.aload_n 0, 1) := by decide +kernel
theorem dX12_give_40 : decode cX12_give 40 = .ok (.getfield 515, 3) := by decide +kernel
theorem dX12_give_43 : decode cX12_give 43 = .ok (.ireturn, 1) := by decide +kernel
theorem dX12_begin_0 : decode cX12_begin 0 = .ok (.aload_n 0, 1) := by decide +kernel
theorem dX12_begin_1 : decode cX12_begin 1 = .ok (.getfield 509, 3) := by decide +kernel
theorem dX12_begin_4 : decode cX12_begin 4 = .ok (.ifCond .eq 15, 3) := by decide +kernel
theorem dX12_begin_7 : decode cX12_begin 7 = .ok (.iload_n 1, 1) := by decide +kernel
theorem dX12_begin_8 : decode cX12_begin 8 = .ok (.iconst 4, 1) := by decide +kernel
theorem dX12_begin_9 : decode cX12_begin 9 = .ok (.if_icmp .lt 10, 3) := by decide +kernel
theorem dX12_begin_12 : decode cX12_begin 12 = .ok (.iload_n 1, 1) := by decide +kernel
theorem dX12_begin_13 : decode cX12_begin 13 = .ok (.sipush 2000, 3) := by decide +kernel
theorem dX12_begin_16 : decode cX12_begin 16 = .ok (.if_icmp .le 5, 3) := by decide +kernel
theorem dX12_begin_19 : decode cX12_begin 19 = .ok (.iconst 0, 1) := by decide +kernel
theorem dX12_begin_20 : decode cX12_begin 20 = .ok (.ireturn, 1) := by decide +kernel
theorem dX12_begin_21 : decode cX12_begin 21 = .ok (.aload_n 0, 1) := by decide +kernel
theorem dX12_begin_22 : decode cX12_begin 22 = .ok (.iload_n 1, 1) := by decide +kernel
theorem dX12_begin_23 : decode cX12_begin 23 = .ok (.putfield 530, 3) := by decide +kernel
theorem dX12_begin_26 : decode cX12_begin 26 = .ok (.aload_n 0, 1) := by decide +kernel
theorem dX12_begin_27 : decode cX12_begin 27 = .ok (.iconst 1, 1) := by decide +kernel
theorem dX12_begin_28 : decode cX12_begin 28 = .ok (.putfield 512, 3) := by decide +kernel
theorem dX12_begin_31 : decode cX12_begin 31 = .ok (.aload_n 0, 1) := by decide +kernel
theorem dX12_begin_32 : decode cX12_begin 32 = .ok (.iconst 0, 1) := by decide +kernel
theorem dX12_begin_33 : decode cX12_begin 33 = .ok (.putfield 533, 3) := by decide +kernel
theorem dX12_begin_36 : decode cX12_begin 36 = .ok (.aload_n 0, 1) := by decide +kernel
theorem dX12_begin_37 : decode cX12_begin 37 = .ok (.iconst 0, 1) := by decide +kernel
theorem dX12_begin_38 : decode cX12_begin 38 = .ok (.putfield 536, 3) := by decide +kernel
theorem dX12_begin_41 : decode cX12_begin 41 = .ok (.aload_n 0, 1) := by decide +kernel
theorem dX12_begin_42 : decode cX12_begin 42 = .ok (.iconst 0, 1) := by decide +kernel
theorem dX12_begin_43 : decode cX12_begin 43 = .ok (.putfield 518, 3) := by decide +kernel
theorem dX12_begin_46 : decode cX12_begin 46 = .ok (.aload_n 0, 1) := by decide +kernel
theorem dX12_begin_47 : decode cX12_begin 47 = .ok (.iconst 0, 1) := by decide +kernel
theorem dX12_begin_48 : decode cX12_begin 48 = .ok (.putfield 539, 3) := by decide +kernel
theorem dX12_begin_51 : decode cX12_begin 51 = .ok (.aload_n 0, 1) := by decide +kernel
theorem dX12_begin_52 : decode cX12_begin 52 = .ok (.iconst (-1), 1) := by decide +kernel
theorem dX12_begin_53 : decode cX12_begin 53 = .ok (.putfield 541, 3) := by decide +kernel
theorem dX12_begin_56 : decode cX12_begin 56 = .ok (.aload_n 0, 1) := by decide +kernel
theorem dX12_begin_57 : decode cX12_begin 57 = .ok (.iconst 0, 1) := by decide +kernel
theorem dX12_begin_58 : decode cX12_begin 58 = .ok (.putfield 544, 3) := by decide +kernel
theorem dX12_begin_61 : decode cX12_begin 61 = .ok (.aload_n 0, 1) := by decide +kernel
theorem dX12_begin_62 : decode cX12_begin 62 = .ok (.iconst 0, 1) := by decide +kernel
theorem dX12_begin_63 : decode cX12_begin 63 = .ok (.putfield 497, 3) := by decide +kernel
theorem dX12_begin_66 : decode cX12_begin 66 = .ok (.iconst 0, 1) := by decide +kernel
theorem dX12_begin_67 : decode cX12_begin 67 = .ok (.istore_n 2, 1) := by decide +kernel
theorem dX12_begin_68 : decode cX12_begin 68 = .ok (.iload_n 2, 1) := by decide +kernel
theorem dX12_begin_69 : decode cX12_begin 69 = .ok (.aload_n 0, 1) := by decide +kernel
theorem dX12_begin_70 : decode cX12_begin 70 = .ok (.getfield 291, 3) := by decide +kernel
theorem dX12_begin_73 : decode cX12_begin 73 = .ok (.if_icmp .ge 21, 3) := by decide +kernel
theorem dX12_begin_76 : decode cX12_begin 76 = .ok (.aload_n 0, 1) := by decide +kernel
theorem dX12_begin_77 : decode cX12_begin 77 = .ok (.getfield 135, 3) := by decide +kernel
theorem dX12_begin_80 : decode cX12_begin 80 = .ok (.iload_n 2, 1) := by decide +kernel
theorem dX12_begin_81 : decode cX12_begin 81 = .ok (.aload_n 0, 1) := by decide +kernel
theorem dX12_begin_82 : decode cX12_begin 82 = .ok (.getfield 101, 3) := by decide +kernel
theorem dX12_begin_85 : decode cX12_begin 85 = .ok (.iload_n 2, 1) := by decide +kernel
theorem dX12_begin_86 : decode cX12_begin 86 = .ok (.iaload, 1) := by decide +kernel
theorem dX12_begin_87 : decode cX12_begin 87 = .ok (.iastore, 1) := by decide +kernel
theorem dX12_begin_88 : decode cX12_begin 88 = .ok (.iinc 2 1, 3) := by decide +kernel
theorem dX12_begin_91 : decode cX12_begin 91 = .ok (.goto (-23), 3) := by decide +kernel
theorem dX12_begin_94 : decode cX12_begin 94 = .ok (.iconst 1, 1) := by decide +kernel
theorem dX12_begin_95 : decode cX12_begin 95 = .ok (.ireturn, 1) := by decide +kernel
theorem dX12_calls_0 : decode cX12_calls 0 = .ok (.aload_n 0, 1) := by decide +kernel
theorem dX12_calls_1 : decode cX12_calls 1 = .ok (.getfield 544, 3) := by decide +kernel
theorem dX12_calls_4 : decode cX12_calls 4 = .ok (.aload_n 0, 1) := by decide +kernel
theorem dX12_calls_5 : decode cX12_calls 5 = .ok (.getfield 71, 3) := by decide +kernel
theorem dX12_calls_8 : decode cX12_calls 8 = .ok (.iload_n 1, 1) := by decide +kernel
theorem dX12_calls_9 : decode cX12_calls 9 = .ok (.iaload, 1) := by decide +kernel
theorem dX12_calls_10 : decode cX12_calls 10 = .ok (.iadd, 1) := by decide +kernel
theorem dX12_calls_11 : decode cX12_calls 11 = .ok (.aload_n 0, 1) := by decide +kernel
theorem dX12_calls_12 : decode cX12_calls 12 = .ok (.getfield 530, 3) := by decide +kernel
theorem dX12_calls_15 : decode cX12_calls 15 = .ok (.if_icmp .le 16, 3) := by decide +kernel
theorem dX12_calls_18 : decode cX12_calls 18 = .ok (.aload_n 0, 1) := by decide +kernel
theorem dX12_calls_19 : decode cX12_calls 19 = .ok (.bipush 6, 2) := by decide +kernel
theorem dX12_calls_21 : decode cX12_calls 21 = .ok (.putfield 512, 3) := by decide +kernel
theorem dX12_calls_24 : decode cX12_calls 24 = .ok (.aload_n 0, 1) := by decide +kernel
theorem dX12_calls_25 : decode cX12_calls 25 = .ok (.iload_n 2, 1) := by decide +kernel
theorem dX12_calls_26 : decode cX12_calls 26 = .ok (.putfield 541, 3) := by decide +kernel
theorem dX12_calls_29 : decode cX12_calls 29 = .ok (.iconst 0, 1) := by decide +kernel
theorem dX12_calls_30 : decode cX12_calls 30 = .ok (.ireturn, 1) := by decide +kernel
theorem dX12_calls_31 : decode cX12_calls 31 = .ok (.aload_n 0, 1) := by decide +kernel
theorem dX12_calls_32 : decode cX12_calls 32 = .ok (.dup, 1) := by decide +kernel
theorem dX12_calls_33 : decode cX12_calls 33 = .ok (.getfield 544, 3) := by decide +kernel
theorem dX12_calls_36 : decode cX12_calls 36 = .ok (.aload_n 0, 1) := by decide +kernel
theorem dX12_calls_37 : decode cX12_calls 37 = .ok (.getfield 71, 3) := by decide +kernel
theorem dX12_calls_40 : decode cX12_calls 40 = .ok (.iload_n 1, 1) := by decide +kernel
theorem dX12_calls_41 : decode cX12_calls 41 = .ok (.iaload, 1) := by decide +kernel
theorem dX12_calls_42 : decode cX12_calls 42 = .ok (.iadd, 1) := by decide +kernel
theorem dX12_calls_43 : decode cX12_calls 43 = .ok (.putfield 544, 3) := by decide +kernel
theorem dX12_calls_46 : decode cX12_calls 46 = .ok (.aload_n 0, 1) := by decide +kernel
theorem dX12_calls_47 : decode cX12_calls 47 = .ok (.getfield 533, 3) := by decide +kernel
theorem dX12_calls_50 : decode cX12_calls 50 = .ok (.ifCond .ne 10, 3) := by decide +kernel
theorem dX12_calls_53 : decode cX12_calls 53 = .ok (.aload_n 0, 1) := by decide +kernel
theorem dX12_calls_54 : decode cX12_calls 54 = .ok (.getfield 291, 3) := by decide +kernel
theorem dX12_calls_57 : decode cX12_calls 57 = .ok (.goto 7, 3) := by decide +kernel
theorem dX12_calls_60 : decode cX12_calls 60 = .ok (.aload_n 0, 1) := by decide +kernel
theorem dX12_calls_61 : decode cX12_calls 61 = .ok (.getfield 547, 3) := by decide +kernel
theorem dX12_calls_64 : decode cX12_calls 64 = .ok (.istore 4, 2) := by decide +kernel
theorem dX12_calls_66 : decode cX12_calls 66 = .ok (.iconst 0, 1) := by decide +kernel
theorem dX12_calls_67 : decode cX12_calls 67 = .ok (.istore 5, 2) := by decide +kernel
theorem dX12_calls_69 : decode cX12_calls 69 = .ok (.iconst 0, 1) := by decide +kernel
theorem dX12_calls_70 : decode cX12_calls 70 = .ok (.istore 6, 2) := by decide +kernel
theorem dX12_calls_72 : decode cX12_calls 72 = .ok (.iload 6, 2) := by decide +kernel
theorem dX12_calls_74 : decode cX12_calls 74 = .ok (.aload_n 0, 1) := by decide +kernel
theorem dX12_calls_75 : decode cX12_calls 75 = .ok (.getfield 68, 3) := by decide +kernel
theorem dX12_calls_78 : decode cX12_calls 78 = .ok (.iload_n 1, 1) := by decide +kernel
theorem dX12_calls_79 : decode cX12_calls 79 = .ok (.iaload, 1) := by decide +kernel
theorem dX12_calls_80 : decode cX12_calls 80 = .ok (.if_icmp .ge 36, 3) := by decide +kernel
theorem dX12_calls_83 : decode cX12_calls 83 = .ok (.iload 5, 2) := by decide +kernel
theorem dX12_calls_85 : decode cX12_calls 85 = .ok (.aload_n 0, 1) := by decide +kernel
theorem dX12_calls_86 : decode cX12_calls 86 = .ok (.getfield 89, 3) := by decide +kernel
theorem dX12_calls_89 : decode cX12_calls 89 = .ok (.aload_n 0, 1) := by decide +kernel
theorem dX12_calls_90 : decode cX12_calls 90 = .ok (.getfield 80, 3) := by decide +kernel
theorem dX12_calls_93 : decode cX12_calls 93 = .ok (.iload_n 1, 1) := by decide +kernel
theorem dX12_calls_94 : decode cX12_calls 94 = .ok (.iaload, 1) := by decide +kernel
theorem dX12_calls_95 : decode cX12_calls 95 = .ok (.iload 6, 2) := by decide +kernel
theorem dX12_calls_97 : decode cX12_calls 97 = .ok (.iadd, 1) := by decide +kernel
theorem dX12_calls_98 : decode cX12_calls 98 = .ok (.iaload, 1) := by decide +kernel
theorem dX12_calls_99 : decode cX12_calls 99 = .ok (.ifCond .ne 7, 3) := by decide +kernel
theorem dX12_calls_102 : decode cX12_calls 102 = .ok (.iconst 1, 1) := by decide +kernel
theorem dX12_calls_103 : decode cX12_calls 103 = .ok (.goto 4, 3) := by decide +kernel
theorem dX12_calls_106 : decode cX12_calls 106 = .ok (.iconst 2, 1) := by decide +kernel
theorem dX12_calls_107 : decode cX12_calls 107 = .ok (.iadd, 1) := by decide +kernel
theorem dX12_calls_108 : decode cX12_calls 108 = .ok (.istore 5, 2) := by decide +kernel
theorem dX12_calls_110 : decode cX12_calls 110 = .ok (.iinc 6 1, 3) := by decide +kernel
theorem dX12_calls_113 : decode cX12_calls 113 = .ok (.goto (-41), 3) := by decide +kernel
theorem dX12_calls_116 : decode cX12_calls 116 = .ok (.aload_n 0, 1) := by decide +kernel
theorem dX12_calls_117 : decode cX12_calls 117 = .ok (.dup, 1) := by decide +kernel
theorem dX12_calls_118 : decode cX12_calls 118 = .ok (.getfield 497, 3) := by decide +kernel
theorem dX12_calls_121 : decode cX12_calls 121 = .ok (.iload 5, 2) := by decide +kernel
theorem dX12_calls_123 : decode cX12_calls 123 = .ok (.isub, 1) := by decide +kernel
theorem dX12_calls_124 : decode cX12_calls 124 = .ok (.putfield 497, 3) := by decide +kernel
theorem dX12_calls_127 : decode cX12_calls 127 = .ok (.iconst 0, 1) := by decide +kernel
theorem dX12_calls_128 : decode cX12_calls 128 = .ok (.istore 6, 2) := by decide +kernel
theorem dX12_calls_130 : decode cX12_calls 130 = .ok (.iload 6, 2) := by decide +kernel
theorem dX12_calls_132 : decode cX12_calls 132 = .ok (.aload_n 0, 1) := by decide +kernel
theorem dX12_calls_133 : decode cX12_calls 133 = .ok (.getfield 74, 3) := by decide +kernel
theorem dX12_calls_136 : decode cX12_calls 136 = .ok (.iload_n 1, 1) := by decide +kernel
theorem dX12_calls_137 : decode cX12_calls 137 = .ok (.iaload, 1) := by decide +kernel
theorem dX12_calls_138 : decode cX12_calls 138 = .ok (.if_icmp .ge 42, 3) := by decide +kernel
theorem dX12_calls_141 : decode cX12_calls 141 = .ok (.aload_n 0, 1) := by decide +kernel
theorem dX12_calls_142 : decode cX12_calls 142 = .ok (.getfield 135, 3) := by decide +kernel
theorem dX12_calls_145 : decode cX12_calls 145 = .ok (.iload 4, 2) := by decide +kernel
theorem dX12_calls_147 : decode cX12_calls 147 = .ok (.iload 6, 2) := by decide +kernel
theorem dX12_calls_149 : decode cX12_calls 149 = .ok (.iadd, 1) := by decide +kernel
theorem dX12_calls_150 : decode cX12_calls 150 = .ok (.iload 6, 2) := by decide +kernel
theorem dX12_calls_152 : decode cX12_calls 152 = .ok (.iload 5, 2) := by decide +kernel
theorem dX12_calls_154 : decode cX12_calls 154 = .ok (.if_icmp .ge 18, 3) := by decide +kernel
theorem dX12_calls_157 : decode cX12_calls 157 = .ok (.aload_n 0, 1) := by decide +kernel
theorem dX12_calls_158 : decode cX12_calls 158 = .ok (.getfield 126, 3) := by decide +kernel
theorem dX12_calls_161 : decode cX12_calls 161 = .ok (.aload_n 0, 1) := by decide +kernel
theorem dX12_calls_162 : decode cX12_calls 162 = .ok (.getfield 497, 3) := by decide +kernel
theorem dX12_calls_165 : decode cX12_calls 165 = .ok (.iload 6, 2) := by decide +kernel
theorem dX12_calls_167 : decode cX12_calls 167 = .ok (.iadd, 1) := by decide +kernel
theorem dX12_calls_168 : decode cX12_calls 168 = .ok (.iaload, 1) := by decide +kernel
theorem dX12_calls_169 : decode cX12_calls 169 = .ok (.goto 4, 3) := by decide +kernel
theorem dX12_calls_172 : decode cX12_calls 172 = .ok (.iconst 0, 1) := by decide +kernel
theorem dX12_calls_173 : decode cX12_calls 173 = .ok (.iastore, 1) := by decide +kernel
theorem dX12_calls_174 : decode cX12_calls 174 = .ok (.iinc 6 1, 3) := by decide +kernel
theorem dX12_calls_177 : decode cX12_calls 177 = .ok (.goto (-47), 3) := by decide +kernel
theorem dX12_calls_180 : decode cX12_calls 180 = .ok (.aload_n 0, 1) := by decide +kernel
theorem dX12_calls_181 : decode cX12_calls 181 = .ok (.getfield 138, 3) := by decide +kernel
theorem dX12_calls_184 : decode cX12_calls 184 = .ok (.aload_n 0, 1) := by decide +kernel
theorem dX12_calls_185 : decode cX12_calls 185 = .ok (.getfield 533, 3) := by decide +kernel
theorem dX12_calls_188 : decode cX12_calls 188 = .ok (.iload_n 1, 1) := by decide +kernel
theorem dX12_calls_189 : decode cX12_calls 189 = .ok (.iastore, 1) := by decide +kernel
theorem dX12_calls_190 : decode cX12_calls 190 = .ok (.aload_n 0, 1) := by decide +kernel
theorem dX12_calls_191 : decode cX12_calls 191 = .ok (.getfield 141, 3) := by decide +kernel
theorem dX12_calls_194 : decode cX12_calls 194 = .ok (.aload_n 0, 1) := by decide +kernel
theorem dX12_calls_195 : decode cX12_calls 195 = .ok (.getfield 533, 3) := by decide +kernel
theorem dX12_calls_198 : decode cX12_calls 198 = .ok (.iload_n 3, 1) := by decide +kernel
theorem dX12_calls_199 : decode cX12_calls 199 = .ok (.iastore, 1) := by decide +kernel
theorem dX12_calls_200 : decode cX12_calls 200 = .ok (.aload_n 0, 1) := by decide +kernel
theorem dX12_calls_201 : decode cX12_calls 201 = .ok (.getfield 144, 3) := by decide +kernel
theorem dX12_calls_204 : decode cX12_calls 204 = .ok (.aload_n 0, 1) := by decide +kernel
theorem dX12_calls_205 : decode cX12_calls 205 = .ok (.getfield 533, 3) := by decide +kernel
theorem dX12_calls_208 : decode cX12_calls 208 = .ok (.iload 4, 2) := by decide +kernel
theorem dX12_calls_210 : decode cX12_calls 210 = .ok (.iastore, 1) := by decide +kernel
theorem dX12_calls_211 : decode cX12_calls 211 = .ok (.aload_n 0, 1) := by decide +kernel
theorem dX12_calls_212 : decode cX12_calls 212 = .ok (.dup, 1) := by decide +kernel
theorem dX12_calls_213 : decode cX12_calls 213 = .ok (.getfield 533, 3) := by decide +kernel
theorem dX12_calls_216 : decode cX12_calls 216 = .ok (.iconst 1, 1) := by decide +kernel
theorem dX12_calls_217 : decode cX12_calls 217 = .ok (.iadd, 1) := by decide +kernel
theorem dX12_calls_218 : decode cX12_calls 218 = .ok (.putfield 533, 3) := by decide +kernel
theorem dX12_calls_221 : decode cX12_calls 221 = .ok (.aload_n 0, 1) := by decide +kernel
theorem dX12_calls_222 : decode cX12_calls 222 = .ok (.iload 4, 2) := by decide +kernel
theorem dX12_calls_224 : decode cX12_calls 224 = .ok (.putfield 550, 3) := by decide +kernel
theorem dX12_calls_227 : decode cX12_calls 227 = .ok (.aload_n 0, 1) := by decide +kernel
theorem dX12_calls_228 : decode cX12_calls 228 = .ok (.iload 4, 2) := by decide +kernel
theorem dX12_calls_230 : decode cX12_calls 230 = .ok (.aload_n 0, 1) := by decide +kernel
theorem dX12_calls_231 : decode cX12_calls 231 = .ok (.getfield 74, 3) := by decide +kernel
theorem dX12_calls_234 : decode cX12_calls 234 = .ok (.iload_n 1, 1) := by decide +kernel
theorem dX12_calls_235 : decode cX12_calls 235 = .ok (.iaload, 1) := by decide +kernel
theorem dX12_calls_236 : decode cX12_calls 236 = .ok (.iadd, 1) := by decide +kernel
theorem dX12_calls_237 : decode cX12_calls 237 = .ok (.putfield 547, 3) := by decide +kernel
theorem dX12_calls_240 : decode cX12_calls 240 = .ok (.aload_n 0, 1) := by decide +kernel
theorem dX12_calls_241 : decode cX12_calls 241 = .ok (.aload_n 0, 1) := by decide +kernel
theorem dX12_calls_242 : decode cX12_calls 242 = .ok (.getfield 77, 3) := by decide +kernel
theorem dX12_calls_245 : decode cX12_calls 245 = .ok (.iload_n 1, 1) := by decide +kernel
theorem dX12_calls_246 : decode cX12_calls 246 = .ok (.iaload, 1) := by decide +kernel
theorem dX12_calls_247 : decode cX12_calls 247 = .ok (.putfield 553, 3) := by decide +kernel
theorem dX12_calls_250 : decode cX12_calls 250 = .ok (.iconst 1, 1) := by decide +kernel
theorem dX12_calls_251 : decode cX12_calls 251 = .ok (.ireturn, 1) := by decide +kernel
theorem dX12_returnsHere_0 : decode cX12_returnsHere 0 = .ok (.aload_n 0, 1) := by decide +kernel
theorem dX12_returnsHere_1 : decode cX12_returnsHere 1 = .ok (.dup, 1) := by decide +kernel
theorem dX12_returnsHere_2 : decode cX12_returnsHere 2 = .ok (.getfield 497, 3) := by decide +kernel
theorem dX12_returnsHere_5 : decode cX12_returnsHere 5 = .ok (.iconst 1, 1) := by decide +kernel
theorem dX12_returnsHere_6 : decode cX12_returnsHere 6 = .ok (.isub, 1) := by decide +kernel
theorem dX12_returnsHere_7 : decode cX12_returnsHere 7 = .ok (.putfield 497, 3) := by decide +kernel
theorem dX12_returnsHere_10 : decode cX12_returnsHere 10 = .ok (.aload_n 0, 1) := by decide +kernel
theorem dX12_returnsHere_11 : decode cX12_returnsHere 11 = .ok (.getfield 126, 3) := by decide +kernel
theorem dX12_returnsHere_14 : decode cX12_returnsHere 14 = .ok (.aload_n 0, 1) := by decide +kernel
theorem dX12_returnsHere_15 : decode cX12_returnsHere 15 = .ok (.getfield 497, 3) := by decide +kernel
theorem dX12_returnsHere_18 : decode cX12_returnsHere 18 = .ok (.iaload, 1) := by decide +kernel
theorem dX12_returnsHere_19 : decode cX12_returnsHere 19 = .ok (.istore_n 1, 1) := by decide +kernel
theorem dX12_returnsHere_20 : decode cX12_returnsHere 20 = .ok (.aload_n 0, 1) := by decide +kernel
theorem dX12_returnsHere_21 : decode cX12_returnsHere 21 = .ok (.dup, 1) := by decide +kernel
theorem dX12_returnsHere_22 : decode cX12_returnsHere 22 = .ok (.getfield 533, 3) := by decide +kernel
theorem dX12_returnsHere_25 : decode cX12_returnsHere 25 = .ok (.iconst 1, 1) := by decide +kernel
theorem dX12_returnsHere_26 : decode cX12_returnsHere 26 = .ok (.isub, 1) := by decide +kernel
theorem dX12_returnsHere_27 : decode cX12_returnsHere 27 = .ok (.putfield 533, 3) := by decide +kernel
theorem dX12_returnsHere_30 : decode cX12_returnsHere 30 = .ok (.aload_n 0, 1) := by decide +kernel
theorem dX12_returnsHere_31 : decode cX12_returnsHere 31 = .ok (.getfield 138, 3) := by decide +kernel
theorem dX12_returnsHere_34 : decode cX12_returnsHere 34 = .ok (.aload_n 0, 1) := by decide +kernel
theorem dX12_returnsHere_35 : decode cX12_returnsHere 35 = .ok (.getfield 533, 3) := by decide +kernel
theorem dX12_returnsHere_38 : decode cX12_returnsHere 38 = .ok (.iaload, 1) := by decide +kernel
theorem dX12_returnsHere_39 : decode cX12_returnsHere 39 = .ok (.istore_n 2, 1) := by decide +kernel
theorem dX12_returnsHere_40 : decode cX12_returnsHere 40 = .ok (.aload_n 0, 1) := by decide +kernel
theorem dX12_returnsHere_41 : decode cX12_returnsHere 41 = .ok (.getfield 533, 3) := by decide +kernel
theorem dX12_returnsHere_44 : decode cX12_returnsHere 44 = .ok (.ifCond .ne 32, 3) := by decide +kernel
theorem dX12_returnsHere_47 : decode cX12_returnsHere 47 = .ok (.aload_n 0, 1) := by decide +kernel
theorem dX12_returnsHere_48 : decode cX12_returnsHere 48 = .ok (.iconst 3, 1) := by decide +kernel
theorem dX12_returnsHere_49 : decode cX12_returnsHere 49 = .ok (.putfield 512, 3) := by decide +kernel
theorem dX12_returnsHere_52 : decode cX12_returnsHere 52 = .ok (.aload_n 0, 1) := by decide +kernel
theorem dX12_returnsHere_53 : decode cX12_returnsHere 53 = .ok (.aload_n 0, 1) := by decide +kernel
theorem dX12_returnsHere_54 : decode cX12_returnsHere 54 = .ok (.getfield 86, 3) := by decide +kernel
theorem dX12_returnsHere_57 : decode cX12_returnsHere 57 = .ok (.iload_n 2, 1) := by decide +kernel
theorem dX12_returnsHere_58 : decode cX12_returnsHere 58 = .ok (.baload, 1) := by decide +kernel
theorem dX12_returnsHere_59 : decode cX12_returnsHere 59 = .ok (.ifCond .eq 7, 3) := by decide +kernel
theorem dX12_returnsHere_62 : decode cX12_returnsHere 62 = .ok (.iconst 0, 1) := by decide +kernel
theorem dX12_returnsHere_63 : decode cX12_returnsHere 63 = .ok (.goto 4, 3) := by decide +kernel
theorem dX12_returnsHere_66 : decode cX12_returnsHere 66 = .ok (.iload_n 1, 1) := by decide +kernel
theorem dX12_returnsHere_67 : decode cX12_returnsHere 67 = .ok (.putfield 539, 3) := by decide +kernel
theorem dX12_returnsHere_70 : decode cX12_returnsHere 70 = .ok (.aload_n 0, 1) := by decide +kernel
theorem dX12_returnsHere_71 : decode cX12_returnsHere 71 = .ok (.iconst 0, 1) := by decide +kernel
theorem dX12_returnsHere_72 : decode cX12_returnsHere 72 = .ok (.putfield 544, 3) := by decide +kernel
theorem dX12_returnsHere_75 : decode cX12_returnsHere 75 = .ok (.return_, 1) := by decide +kernel
theorem dX12_returnsHere_76 : decode cX12_returnsHere 76 = .ok (.aload_n 0, 1) := by decide +kernel
theorem dX12_returnsHere_77 : decode cX12_returnsHere 77 = .ok (.dup, 1) := by decide +kernel
theorem dX12_returnsHere_78 : decode cX12_returnsHere 78 = .ok (.getfield 544, 3) := by decide +kernel
theorem dX12_returnsHere_81 : decode cX12_returnsHere 81 = .ok (.aload_n 0, 1) := by decide +kernel
theorem dX12_returnsHere_82 : decode cX12_returnsHere 82 = .ok (.getfield 71, 3) := by decide +kernel
theorem dX12_returnsHere_85 : decode cX12_returnsHere 85 = .ok (.iload_n 2, 1) := by decide +kernel
theorem dX12_returnsHere_86 : decode cX12_returnsHere 86 = .ok (.iaload, 1) := by decide +kernel
theorem dX12_returnsHere_87 : decode cX12_returnsHere 87 = .ok (.isub, 1) := by decide +kernel
theorem dX12_returnsHere_88 : decode cX12_returnsHere 88 = .ok (.putfield 544, 3) := by decide +kernel
theorem dX12_returnsHere_91 : decode cX12_returnsHere 91 = .ok (.aload_n 0, 1) := by decide +kernel
theorem dX12_returnsHere_92 : decode cX12_returnsHere 92 = .ok (.aload_n 0, 1) := by decide +kernel
theorem dX12_returnsHere_93 : decode cX12_returnsHere 93 = .ok (.getfield 144, 3) := by decide +kernel
theorem dX12_returnsHere_96 : decode cX12_returnsHere 96 = .ok (.aload_n 0, 1) := by decide +kernel
theorem dX12_returnsHere_97 : decode cX12_returnsHere 97 = .ok (.getfield 533, 3) := by decide +kernel
theorem dX12_returnsHere_100 : decode cX12_returnsHere 100 = .ok (.iaload, 1) := by decide +kernel
theorem dX12_returnsHere_101 : decode cX12_returnsHere 101 = .ok (.putfield 547, 3) := by decide +kernel
theorem dX12_returnsHere_104 : decode cX12_returnsHere 104 = .ok (.aload_n 0, 1) := by decide +kernel
theorem dX12_returnsHere_105 : decode cX12_returnsHere 105 = .ok (.aload_n 0, 1) := by decide +kernel
theorem dX12_returnsHere_106 : decode cX12_returnsHere 106 = .ok (.getfield 144, 3) := by decide +kernel
theorem dX12_returnsHere_109 : decode cX12_returnsHere 109 = .ok (.aload_n 0, 1) := by decide +kernel
theorem dX12_returnsHere_110 : decode cX12_returnsHere 110 = .ok (.getfield 533, 3) := by decide +kernel
theorem dX12_returnsHere_113 : decode cX12_returnsHere 113 = .ok (.iconst 1, 1) := by decide +kernel
theorem dX12_returnsHere_114 : decode cX12_returnsHere 114 = .ok (.isub, 1) := by decide +kernel
theorem dX12_returnsHere_115 : decode cX12_returnsHere 115 = .ok (.iaload, 1) := by decide +kernel
theorem dX12_returnsHere_116 : decode cX12_returnsHere 116 = .ok (.putfield 550, 3) := by decide +kernel
theorem dX12_returnsHere_119 : decode cX12_returnsHere 119 = .ok (.aload_n 0, 1) := by decide +kernel
theorem dX12_returnsHere_120 : decode cX12_returnsHere 120 = .ok (.aload_n 0, 1) := by decide +kernel
theorem dX12_returnsHere_121 : decode cX12_returnsHere 121 = .ok (.getfield 141, 3) := by decide +kernel
theorem dX12_returnsHere_124 : decode cX12_returnsHere 124 = .ok (.aload_n 0, 1) := by decide +kernel
theorem dX12_returnsHere_125 : decode cX12_returnsHere 125 = .ok (.getfield 533, 3) := by decide +kernel
theorem dX12_returnsHere_128 : decode cX12_returnsHere 128 = .ok (.iaload, 1) := by decide +kernel
theorem dX12_returnsHere_129 : decode cX12_returnsHere 129 = .ok (.putfield 553, 3) := by decide +kernel
theorem dX12_returnsHere_132 : decode cX12_returnsHere 132 = .ok (.aload_n 0, 1) := by decide +kernel
theorem dX12_returnsHere_133 : decode cX12_returnsHere 133 = .ok (.getfield 126, 3) := by decide +kernel
theorem dX12_returnsHere_136 : decode cX12_returnsHere 136 = .ok (.aload_n 0, 1) := by decide +kernel
theorem dX12_returnsHere_137 : decode cX12_returnsHere 137 = .ok (.getfield 497, 3) := by decide +kernel
theorem dX12_returnsHere_140 : decode cX12_returnsHere 140 = .ok (.iload_n 1, 1) := by decide +kernel
theorem dX12_returnsHere_141 : decode cX12_returnsHere 141 = .ok (.iastore, 1) := by decide +kernel
theorem dX12_returnsHere_142 : decode cX12_returnsHere 142 = .ok (.aload_n 0, 1) := by decide +kernel
theorem dX12_returnsHere_143 : decode cX12_returnsHere 143 = .ok (.dup, 1) := by decide +kernel
theorem dX12_returnsHere_144 : decode cX12_returnsHere 144 = .ok (.getfield 497, 3) := by decide +kernel
theorem dX12_returnsHere_147 : decode cX12_returnsHere 147 = .ok (.iconst 1, 1) := by decide +kernel
theorem dX12_returnsHere_148 : decode cX12_returnsHere 148 = .ok (.iadd, 1) := by decide +kernel
theorem dX12_returnsHere_149 : decode cX12_returnsHere 149 = .ok (.putfield 497, 3) := by decide +kernel
theorem dX12_returnsHere_152 : decode cX12_returnsHere 152 = .ok (.return_, 1) := by decide +kernel
theorem dX12_run_0 : decode cX12_run 0 = .ok (.iload_n 1, 1) := by decide +kernel
theorem dX12_run_1 : decode cX12_run 1 = .ok (.ifCond .lt 17, 3) := by decide +kernel
theorem dX12_run_4 : decode cX12_run 4 = .ok (.iload_n 1, 1) := by decide +kernel
theorem dX12_run_5 : decode cX12_run 5 = .ok (.sipush 1000, 3) := by decide +kernel
theorem dX12_run_8 : decode cX12_run 8 = .ok (.if_icmp .gt 10, 3) := by decide +kernel
theorem dX12_run_11 : decode cX12_run 11 = .ok (.aload_n 0, 1) := by decide +kernel
theorem dX12_run_12 : decode cX12_run 12 = .ok (.getfield 512, 3) := by decide +kernel
theorem dX12_run_15 : decode cX12_run 15 = .ok (.ifCond .ne 5, 3) := by decide +kernel
theorem dX12_run_18 : decode cX12_run 18 = .ok (.iconst (-1), 1) := by decide +kernel
theorem dX12_run_19 : decode cX12_run 19 = .ok (.ireturn, 1) := by decide +kernel
theorem dX12_run_20 : decode cX12_run 20 = .ok (.aload_n 0, 1) := by decide +kernel
theorem dX12_run_21 : decode cX12_run 21 = .ok (.getfield 512, 3) := by decide +kernel
theorem dX12_run_24 : decode cX12_run 24 = .ok (.iconst 2, 1) := by decide +kernel
theorem dX12_run_25 : decode cX12_run 25 = .ok (.if_icmp .le 8, 3) := by decide +kernel
theorem dX12_run_28 : decode cX12_run 28 = .ok (.aload_n 0, 1) := by decide +kernel
theorem dX12_run_29 : decode cX12_run 29 = .ok (.getfield 512, 3) := by decide +kernel
theorem dX12_run_32 : decode cX12_run 32 = .ok (.ireturn, 1) := by decide +kernel
theorem dX12_run_33 : decode cX12_run 33 = .ok (.aload_n 0, 1) := by decide +kernel
theorem dX12_run_34 : decode cX12_run 34 = .ok (.iload_n 1, 1) := by decide +kernel
theorem dX12_run_35 : decode cX12_run 35 = .ok (.putfield 556, 3) := by decide +kernel
theorem dX12_run_38 : decode cX12_run 38 = .ok (.aload_n 0, 1) := by decide +kernel
theorem dX12_run_39 : decode cX12_run 39 = .ok (.iconst 1, 1) := by decide +kernel
theorem dX12_run_40 : decode cX12_run 40 = .ok (.putfield 512, 3) := by decide +kernel
theorem dX12_run_43 : decode cX12_run 43 = .ok (.aload_n 0, 1) := by decide +kernel
theorem dX12_run_44 : decode cX12_run 44 = .ok (.getfield 533, 3) := by decide +kernel
theorem dX12_run_47 : decode cX12_run 47 = .ok (.ifCond .gt 24, 3) := by decide +kernel
theorem dX12_run_50 : decode cX12_run 50 = .ok (.aload_n 0, 1) := by decide +kernel
theorem dX12_run_51 : decode cX12_run 51 = .ok (.aload_n 0, 1) := by decide +kernel
theorem dX12_run_52 : decode cX12_run 52 = .ok (.getfield 527, 3) := by decide +kernel
theorem dX12_run_55 : decode cX12_run 55 = .ok (.aload_n 0, 1) := by decide +kernel
theorem dX12_run_56 : decode cX12_run 56 = .ok (.getfield 65, 3) := by decide +kernel
theorem dX12_run_59 : decode cX12_run 59 = .ok (.aload_n 0, 1) := by decide +kernel
theorem dX12_run_60 : decode cX12_run 60 = .ok (.getfield 527, 3) := by decide +kernel
theorem dX12_run_63 : decode cX12_run 63 = .ok (.iaload, 1) := by decide +kernel
theorem dX12_run_64 : decode cX12_run 64 = .ok (.iconst 0, 1) := by decide +kernel
theorem dX12_run_65 : decode cX12_run 65 = .ok (.invokevirtual 559, 3) := by decide +kernel
theorem dX12_run_68 : decode cX12_run 68 = .ok (.ifCond .eq 7, 3) := by decide +kernel
theorem dX12_run_71 : decode cX12_run 71 = .ok (.iconst 1, 1) := by decide +kernel
theorem dX12_run_72 : decode cX12_run 72 = .ok (.goto 4, 3) := by decide +kernel
theorem dX12_run_75 : decode cX12_run 75 = .ok (.iconst 0, 1) := by decide +kernel
theorem dX12_run_76 : decode cX12_run 76 = .ok (.istore_n 2, 1) := by decide +kernel
theorem dX12_run_77 : decode cX12_run 77 = .ok (.iload_n 2, 1) := by decide +kernel
theorem dX12_run_78 : decode cX12_run 78 = .ok (.ifCond .eq 19, 3) := by decide +kernel
theorem dX12_run_81 : decode cX12_run 81 = .ok (.aload_n 0, 1) := by decide +kernel
theorem dX12_run_82 : decode cX12_run 82 = .ok (.getfield 512, 3) := by decide +kernel
theorem dX12_run_85 : decode cX12_run 85 = .ok (.iconst 1, 1) := by decide +kernel
theorem dX12_run_86 : decode cX12_run 86 = .ok (.if_icmp .ne 11, 3) := by decide +kernel
theorem dX12_run_89 : decode cX12_run 89 = .ok (.aload_n 0, 1) := by decide +kernel
theorem dX12_run_90 : decode cX12_run 90 = .ok (.invokevirtual 563, 3) := by decide +kernel
theorem dX12_run_93 : decode cX12_run 93 = .ok (.istore_n 2, 1) := by decide +kernel
theorem dX12_run_94 : decode cX12_run 94 = .ok (.goto (-17), 3) := by decide +kernel
theorem dX12_run_97 : decode cX12_run 97 = .ok (.aload_n 0, 1) := by decide +kernel
theorem dX12_run_98 : decode cX12_run 98 = .ok (.getfield 512, 3) := by decide +kernel
theorem dX12_run_101 : decode cX12_run 101 = .ok (.ireturn, 1) := by decide +kernel
theorem dX12_works_0 : decode cX12_works 0 = .ok (.aload_n 0, 1) := by decide +kernel
theorem dX12_works_1 : decode cX12_works 1 = .ok (.getfield 107, 3) := by decide +kernel
theorem dX12_works_4 : decode cX12_works 4 = .ok (.aload_n 0, 1) := by decide +kernel
theorem dX12_works_5 : decode cX12_works 5 = .ok (.getfield 553, 3) := by decide +kernel
theorem dX12_works_8 : decode cX12_works 8 = .ok (.iaload, 1) := by decide +kernel
theorem dX12_works_9 : decode cX12_works 9 = .ok (.istore_n 1, 1) := by decide +kernel
theorem dX12_works_10 : decode cX12_works 10 = .ok (.aload_n 0, 1) := by decide +kernel
theorem dX12_works_11 : decode cX12_works 11 = .ok (.getfield 110, 3) := by decide +kernel
theorem dX12_works_14 : decode cX12_works 14 = .ok (.aload_n 0, 1) := by decide +kernel
theorem dX12_works_15 : decode cX12_works 15 = .ok (.getfield 553, 3) := by decide +kernel
theorem dX12_works_18 : decode cX12_works 18 = .ok (.iaload, 1) := by decide +kernel
theorem dX12_works_19 : decode cX12_works 19 = .ok (.istore_n 2, 1) := by decide +kernel
theorem dX12_works_20 : decode cX12_works 20 = .ok (.aload_n 0, 1) := by decide +kernel
theorem dX12_works_21 : decode cX12_works 21 = .ok (.getfield 104, 3) := by decide +kernel
theorem dX12_works_24 : decode cX12_works 24 = .ok (.aload_n 0, 1) := by decide +kernel
theorem dX12_works_25 : decode cX12_works 25 = .ok (.getfield 553, 3) := by decide +kernel
theorem dX12_works_28 : decode cX12_works 28 = .ok (.iaload, 1) := by decide +kernel
theorem dX12_works_29 : decode cX12_works 29 = .ok (.tableswitch 837 1 22 #[103, 153, 103, 153, 203, 300, 434, 464, 525, 837, 837, 837, 837, 837, 558, 590, 603, 621, 634, 695, 725, 807], 103) := by decide +kernel
theorem dX12_works_132 : decode cX12_works 132 = .ok (.aload_n 0, 1) := by decide +kernel
theorem dX12_works_133 : decode cX12_works 133 = .ok (.getfield 126, 3) := by decide +kernel
theorem dX12_works_136 : decode cX12_works 136 = .ok (.aload_n 0, 1) := by decide +kernel
theorem dX12_works_137 : decode cX12_works 137 = .ok (.getfield 497, 3) := by decide +kernel
theorem dX12_works_140 : decode cX12_works 140 = .ok (.aload_n 0, 1) := by decide +kernel
theorem dX12_works_141 : decode cX12_works 141 = .ok (.getfield 135, 3) := by decide +kernel
theorem dX12_works_144 : decode cX12_works 144 = .ok (.aload_n 0, 1) := by decide +kernel
theorem dX12_works_145 : decode cX12_works 145 = .ok (.getfield 104, 3) := by decide +kernel
theorem dX12_works_148 : decode cX12_works 148 = .ok (.aload_n 0, 1) := by decide +kernel
theorem dX12_works_149 : decode cX12_works 149 = .ok (.getfield 553, 3) := by decide +kernel
theorem dX12_works_152 : decode cX12_works 152 = .ok (.iaload, 1) := by decide +kernel
theorem dX12_works_153 : decode cX12_works 153 = .ok (.iconst 1, 1) := by decide +kernel
theorem dX12_works_154 : decode cX12_works 154 = .ok (.if_icmp .ne 12, 3) := by decide +kernel
theorem dX12_works_157 : decode cX12_works 157 = .ok (.aload_n 0, 1) := by decide +kernel
theorem dX12_works_158 : decode cX12_works 158 = .ok (.getfield 550, 3) := by decide +kernel
theorem dX12_works_161 : decode cX12_works 161 = .ok (.iload_n 1, 1) := by decide +kernel
theorem dX12_works_162 : decode cX12_works 162 = .ok (.iadd, 1) := by decide +kernel
theorem dX12_works_163 : decode cX12_works 163 = .ok (.goto 4, 3) := by decide +kernel
theorem dX12_works_166 : decode cX12_works 166 = .ok (.iload_n 1, 1) := by decide +kernel
theorem dX12_works_167 : decode cX12_works 167 = .ok (.iaload, 1) := by decide +kernel
theorem dX12_works_168 : decode cX12_works 168 = .ok (.iastore, 1) := by decide +kernel
theorem dX12_works_169 : decode cX12_works 169 = .ok (.aload_n 0, 1) := by decide +kernel
theorem dX12_works_170 : decode cX12_works 170 = .ok (.dup, 1) := by decide +kernel
theorem dX12_works_171 : decode cX12_works 171 = .ok (.getfield 497, 3) := by decide +kernel
theorem dX12_works_174 : decode cX12_works 174 = .ok (.iconst 1, 1) := by decide +kernel
theorem dX12_works_175 : decode cX12_works 175 = .ok (.iadd, 1) := by decide +kernel
theorem dX12_works_176 : decode cX12_works 176 = .ok (.putfield 497, 3) := by decide +kernel
theorem dX12_works_179 : decode cX12_works 179 = .ok (.goto 701, 3) := by decide +kernel
theorem dX12_works_182 : decode cX12_works 182 = .ok (.aload_n 0, 1) := by decide +kernel
theorem dX12_works_183 : decode cX12_works 183 = .ok (.dup, 1) := by decide +kernel
theorem dX12_works_184 : decode cX12_works 184 = .ok (.getfield 497, 3) := by decide +kernel
theorem dX12_works_187 : decode cX12_works 187 = .ok (.iconst 1, 1) := by decide +kernel
theorem dX12_works_188 : decode cX12_works 188 = .ok (.isub, 1) := by decide +kernel
theorem dX12_works_189 : decode cX12_works 189 = .ok (.putfield 497, 3) := by decide +kernel
theorem dX12_works_192 : decode cX12_works 192 = .ok (.aload_n 0, 1) := by decide +kernel
theorem dX12_works_193 : decode cX12_works 193 = .ok (.getfield 135, 3) := by decide +kernel
theorem dX12_works_196 : decode cX12_works 196 = .ok (.aload_n 0, 1) := by decide +kernel
theorem dX12_works_197 : decode cX12_works 197 = .ok (.getfield 104, 3) := by decide +kernel
theorem dX12_works_200 : decode cX12_works 200 = .ok (.aload_n 0, 1) := by decide +kernel
theorem dX12_works_201 : decode cX12_works 201 = .ok (.getfield 553, 3) := by decide +kernel
theorem dX12_works_204 : decode cX12_works 204 = .ok (.iaload, 1) := by decide +kernel
theorem dX12_works_205 : decode cX12_works 205 = .ok (.iconst 2, 1) := by decide +kernel
theorem dX12_works_206 : decode cX12_works 206 = .ok (.if_icmp .ne 12, 3) := by decide +kernel
theorem dX12_works_209 : decode cX12_works 209 = .ok (.aload_n 0, 1) := by decide +kernel
theorem dX12_works_210 : decode cX12_works 210 = .ok (.getfield 550, 3) := by decide +kernel
theorem dX12_works_213 : decode cX12_works 213 = .ok (.iload_n 1, 1) := by decide +kernel
theorem dX12_works_214 : decode cX12_works 214 = .ok (.iadd, 1) := by decide +kernel
theorem dX12_works_215 : decode cX12_works 215 = .ok (.goto 4, 3) := by decide +kernel
theorem dX12_works_218 : decode cX12_works 218 = .ok (.iload_n 1, 1) := by decide +kernel
theorem dX12_works_219 : decode cX12_works 219 = .ok (.aload_n 0, 1) := by decide +kernel
theorem dX12_works_220 : decode cX12_works 220 = .ok (.getfield 126, 3) := by decide +kernel
theorem dX12_works_223 : decode cX12_works 223 = .ok (.aload_n 0, 1) := by decide +kernel
theorem dX12_works_224 : decode cX12_works 224 = .ok (.getfield 497, 3) := by decide +kernel
theorem dX12_works_227 : decode cX12_works 227 = .ok (.iaload, 1) := by decide +kernel
theorem dX12_works_228 : decode cX12_works 228 = .ok (.iastore, 1) := by decide +kernel
theorem dX12_works_229 : decode cX12_works 229 = .ok (.goto 651, 3) := by decide +kernel
theorem dX12_works_232 : decode cX12_works 232 = .ok (.aload_n 0, 1) := by decide +kernel
theorem dX12_works_233 : decode cX12_works 233 = .ok (.getfield 126, 3) := by decide +kernel
theorem dX12_works_236 : decode cX12_works 236 = .ok (.aload_n 0, 1) := by decide +kernel
theorem dX12_works_237 : decode cX12_works 237 = .ok (.getfield 497, 3) := by decide +kernel
theorem dX12_works_240 : decode cX12_works 240 = .ok (.iload_n 2, 1) := by decide +kernel
theorem dX12_works_241 : decode cX12_works 241 = .ok (.iconst (-1), 1) := by decide +kernel
theorem dX12_works_242 : decode cX12_works 242 = .ok (.if_icmp .ne 17, 3) := by decide +kernel
theorem dX12_works_245 : decode cX12_works 245 = .ok (.aload_n 0, 1) := by decide +kernel
theorem dX12_works_246 : decode cX12_works 246 = .ok (.getfield 135, 3) := by decide +kernel
theorem dX12_works_249 : decode cX12_works 249 = .ok (.aload_n 0, 1) := by decide +kernel
theorem dX12_works_250 : decode cX12_works 250 = .ok (.getfield 550, 3) := by decide +kernel
theorem dX12_works_253 : decode cX12_works 253 = .ok (.iload_n 1, 1) := by decide +kernel
theorem dX12_works_254 : decode cX12_works 254 = .ok (.iadd, 1) := by decide +kernel
theorem dX12_works_255 : decode cX12_works 255 = .ok (.iaload, 1) := by decide +kernel
theorem dX12_works_256 : decode cX12_works 256 = .ok (.goto 26, 3) := by decide +kernel
theorem dX12_works_259 : decode cX12_works 259 = .ok (.aload_n 0, 1) := by decide +kernel
theorem dX12_works_260 : decode cX12_works 260 = .ok (.getfield 113, 3) := by decide +kernel
theorem dX12_works_263 : decode cX12_works 263 = .ok (.aload_n 0, 1) := by decide +kernel
theorem dX12_works_264 : decode cX12_works 264 = .ok (.getfield 553, 3) := by decide +kernel
theorem dX12_works_267 : decode cX12_works 267 = .ok (.iaload, 1) := by decide +kernel
theorem dX12_works_268 : decode cX12_works 268 = .ok (.iconst 1, 1) := by decide +kernel
theorem dX12_works_269 : decode cX12_works 269 = .ok (.if_icmp .ne 12, 3) := by decide +kernel
theorem dX12_works_272 : decode cX12_works 272 = .ok (.aload_n 0, 1) := by decide +kernel
theorem dX12_works_273 : decode cX12_works 273 = .ok (.getfield 550, 3) := by decide +kernel
theorem dX12_works_276 : decode cX12_works 276 = .ok (.iload_n 1, 1) := by decide +kernel
theorem dX12_works_277 : decode cX12_works 277 = .ok (.iadd, 1) := by decide +kernel
theorem dX12_works_278 : decode cX12_works 278 = .ok (.goto 4, 3) := by decide +kernel
theorem dX12_works_281 : decode cX12_works 281 = .ok (.iload_n 1, 1) := by decide +kernel
theorem dX12_works_282 : decode cX12_works 282 = .ok (.iastore, 1) := by decide +kernel
theorem dX12_works_283 : decode cX12_works 283 = .ok (.aload_n 0, 1) := by decide +kernel
theorem dX12_works_284 : decode cX12_works 284 = .ok (.getfield 126, 3) := by decide +kernel
theorem dX12_works_287 : decode cX12_works 287 = .ok (.aload_n 0, 1) := by decide +kernel
theorem dX12_works_288 : decode cX12_works 288 = .ok (.getfield 497, 3) := by decide +kernel
theorem dX12_works_291 : decode cX12_works 291 = .ok (.iconst 1, 1) := by decide +kernel
theorem dX12_works_292 : decode cX12_works 292 = .ok (.iadd, 1) := by decide +kernel
theorem dX12_works_293 : decode cX12_works 293 = .ok (.iload_n 2, 1) := by decide +kernel
theorem dX12_works_294 : decode cX12_works 294 = .ok (.iconst (-1), 1) := by decide +kernel
theorem dX12_works_295 : decode cX12_works 295 = .ok (.if_icmp .ne 19, 3) := by decide +kernel
theorem dX12_works_298 : decode cX12_works 298 = .ok (.aload_n 0, 1) := by decide +kernel
theorem dX12_works_299 : decode cX12_works 299 = .ok (.getfield 135, 3) := by decide +kernel
theorem dX12_works_302 : decode cX12_works 302 = .ok (.aload_n 0, 1) := by decide +kernel
theorem dX12_works_303 : decode cX12_works 303 = .ok (.getfield 550, 3) := by decide +kernel
theorem dX12_works_306 : decode cX12_works 306 = .ok (.iload_n 1, 1) := by decide +kernel
theorem dX12_works_307 : decode cX12_works 307 = .ok (.iadd, 1) := by decide +kernel
theorem dX12_works_308 : decode cX12_works 308 = .ok (.iconst 1, 1) := by decide +kernel
theorem dX12_works_309 : decode cX12_works 309 = .ok (.iadd, 1) := by decide +kernel
theorem dX12_works_310 : decode cX12_works 310 = .ok (.iaload, 1) := by decide +kernel
theorem dX12_works_311 : decode cX12_works 311 = .ok (.goto 4, 3) := by decide +kernel
theorem dX12_works_314 : decode cX12_works 314 = .ok (.iload_n 2, 1) := by decide +kernel
theorem dX12_works_315 : decode cX12_works 315 = .ok (.iastore, 1) := by decide +kernel
theorem dX12_works_316 : decode cX12_works 316 = .ok (.aload_n 0, 1) := by decide +kernel
theorem dX12_works_317 : decode cX12_works 317 = .ok (.dup, 1) := by decide +kernel
theorem dX12_works_318 : decode cX12_works 318 = .ok (.getfield 497, 3) := by decide +kernel
theorem dX12_works_321 : decode cX12_works 321 = .ok (.iconst 2, 1) := by decide +kernel
theorem dX12_works_322 : decode cX12_works 322 = .ok (.iadd, 1) := by decide +kernel
theorem dX12_works_323 : decode cX12_works 323 = .ok (.putfield 497, 3) := by decide +kernel
theorem dX12_works_326 : decode cX12_works 326 = .ok (.goto 554, 3) := by decide +kernel
theorem dX12_works_329 : decode cX12_works 329 = .ok (.iload_n 2, 1) := by decide +kernel
theorem dX12_works_330 : decode cX12_works 330 = .ok (.iconst (-1), 1) := by decide +kernel
theorem dX12_works_331 : decode cX12_works 331 = .ok (.if_icmp .ne 19, 3) := by decide +kernel
theorem dX12_works_334 : decode cX12_works 334 = .ok (.aload_n 0, 1) := by decide +kernel
theorem dX12_works_335 : decode cX12_works 335 = .ok (.getfield 135, 3) := by decide +kernel
theorem dX12_works_338 : decode cX12_works 338 = .ok (.aload_n 0, 1) := by decide +kernel
theorem dX12_works_339 : decode cX12_works 339 = .ok (.getfield 550, 3) := by decide +kernel
theorem dX12_works_342 : decode cX12_works 342 = .ok (.iload_n 1, 1) := by decide +kernel
theorem dX12_works_343 : decode cX12_works 343 = .ok (.iadd, 1) := by decide +kernel
theorem dX12_works_344 : decode cX12_works 344 = .ok (.iconst 1, 1) := by decide +kernel
theorem dX12_works_345 : decode cX12_works 345 = .ok (.iadd, 1) := by decide +kernel
theorem dX12_works_346 : decode cX12_works 346 = .ok (.iaload, 1) := by decide +kernel
theorem dX12_works_347 : decode cX12_works 347 = .ok (.goto 4, 3) := by decide +kernel
theorem dX12_works_350 : decode cX12_works 350 = .ok (.iload_n 2, 1) := by decide +kernel
theorem dX12_works_351 : decode cX12_works 351 = .ok (.istore_n 3, 1) := by decide +kernel
theorem dX12_works_352 : decode cX12_works 352 = .ok (.iload_n 2, 1) := by decide +kernel
theorem dX12_works_353 : decode cX12_works 353 = .ok (.iconst (-1), 1) := by decide +kernel
theorem dX12_works_354 : decode cX12_works 354 = .ok (.if_icmp .ne 17, 3) := by decide +kernel
theorem dX12_works_357 : decode cX12_works 357 = .ok (.aload_n 0, 1) := by decide +kernel
theorem dX12_works_358 : decode cX12_works 358 = .ok (.getfield 135, 3) := by decide +kernel
theorem dX12_works_361 : decode cX12_works 361 = .ok (.aload_n 0, 1) := by decide +kernel
theorem dX12_works_362 : decode cX12_works 362 = .ok (.getfield 550, 3) := by decide +kernel
theorem dX12_works_365 : decode cX12_works 365 = .ok (.iload_n 1, 1) := by decide +kernel
theorem dX12_works_366 : decode cX12_works 366 = .ok (.iadd, 1) := by decide +kernel
theorem dX12_works_367 : decode cX12_works 367 = .ok (.iaload, 1) := by decide +kernel
theorem dX12_works_368 : decode cX12_works 368 = .ok (.goto 28, 3) := by decide +kernel
theorem dX12_works_371 : decode cX12_works 371 = .ok (.aload_n 0, 1) := by decide +kernel
theorem dX12_works_372 : decode cX12_works 372 = .ok (.getfield 113, 3) := by decide +kernel
theorem dX12_works_375 : decode cX12_works 375 = .ok (.aload_n 0, 1) := by decide +kernel
theorem dX12_works_376 : decode cX12_works 376 = .ok (.getfield 553, 3) := by decide +kernel
theorem dX12_works_379 : decode cX12_works 379 = .ok (.iaload, 1) := by decide +kernel
theorem dX12_works_380 : decode cX12_works 380 = .ok (.iconst 1, 1) := by decide +kernel
theorem dX12_works_381 : decode cX12_works 381 = .ok (.iand, 1) := by decide +kernel
theorem dX12_works_382 : decode cX12_works 382 = .ok (.iconst 1, 1) := by decide +kernel
theorem dX12_works_383 : decode cX12_works 383 = .ok (.if_icmp .ne 12, 3) := by decide +kernel
theorem dX12_works_386 : decode cX12_works 386 = .ok (.aload_n 0, 1) := by decide +kernel
theorem dX12_works_387 : decode cX12_works 387 = .ok (.getfield 550, 3) := by decide +kernel
theorem dX12_works_390 : decode cX12_works 390 = .ok (.iload_n 1, 1) := by decide +kernel
theorem dX12_works_391 : decode cX12_works 391 = .ok (.iadd, 1) := by decide +kernel
theorem dX12_works_392 : decode cX12_works 392 = .ok (.goto 4, 3) := by decide +kernel
theorem dX12_works_395 : decode cX12_works 395 = .ok (.iload_n 1, 1) := by decide +kernel
theorem dX12_works_396 : decode cX12_works 396 = .ok (.istore 4, 2) := by decide +kernel
theorem dX12_works_398 : decode cX12_works 398 = .ok (.aload_n 0, 1) := by decide +kernel
theorem dX12_works_399 : decode cX12_works 399 = .ok (.getfield 126, 3) := by decide +kernel
theorem dX12_works_402 : decode cX12_works 402 = .ok (.aload_n 0, 1) := by decide +kernel
theorem dX12_works_403 : decode cX12_works 403 = .ok (.getfield 497, 3) := by decide +kernel
theorem dX12_works_406 : decode cX12_works 406 = .ok (.iconst 1, 1) := by decide +kernel
theorem dX12_works_407 : decode cX12_works 407 = .ok (.isub, 1) := by decide +kernel
theorem dX12_works_408 : decode cX12_works 408 = .ok (.iaload, 1) := by decide +kernel
theorem dX12_works_409 : decode cX12_works 409 = .ok (.istore 5, 2) := by decide +kernel
theorem dX12_works_411 : decode cX12_works 411 = .ok (.iload 5, 2) := by decide +kernel
theorem dX12_works_413 : decode cX12_works 413 = .ok (.ifCond .lt 9, 3) := by decide +kernel
theorem dX12_works_416 : decode cX12_works 416 = .ok (.iload 5, 2) := by decide +kernel
theorem dX12_works_418 : decode cX12_works 418 = .ok (.iload_n 3, 1) := by decide +kernel
theorem dX12_works_419 : decode cX12_works 419 = .ok (.if_icmp .lt 25, 3) := by decide +kernel
theorem dX12_works_422 : decode cX12_works 422 = .ok (.aload_n 0, 1) := by decide +kernel
theorem dX12_works_423 : decode cX12_works 423 = .ok (.iconst 5, 1) := by decide +kernel
theorem dX12_works_424 : decode cX12_works 424 = .ok (.putfield 512, 3) := by decide +kernel
theorem dX12_works_427 : decode cX12_works 427 = .ok (.aload_n 0, 1) := by decide +kernel
theorem dX12_works_428 : decode cX12_works 428 = .ok (.aload_n 0, 1) := by decide +kernel
theorem dX12_works_429 : decode cX12_works 429 = .ok (.getfield 113, 3) := by decide +kernel
theorem dX12_works_432 : decode cX12_works 432 = .ok (.aload_n 0, 1) := by decide +kernel
theorem dX12_works_433 : decode cX12_works 433 = .ok (.getfield 553, 3) := by decide +kernel
theorem dX12_works_436 : decode cX12_works 436 = .ok (.iaload, 1) := by decide +kernel
theorem dX12_works_437 : decode cX12_works 437 = .ok (.iconst 1, 1) := by decide +kernel
theorem dX12_works_438 : decode cX12_works 438 = .ok (.ishr, 1) := by decide +kernel
theorem dX12_works_439 : decode cX12_works 439 = .ok (.putfield 541, 3) := by decide +kernel
theorem dX12_works_442 : decode cX12_works 442 = .ok (.iconst 0, 1) := by decide +kernel
theorem dX12_works_443 : decode cX12_works 443 = .ok (.ireturn, 1) := by decide +kernel
theorem dX12_works_444 : decode cX12_works 444 = .ok (.aload_n 0, 1) := by decide +kernel
theorem dX12_works_445 : decode cX12_works 445 = .ok (.getfield 126, 3) := by decide +kernel
theorem dX12_works_448 : decode cX12_works 448 = .ok (.aload_n 0, 1) := by decide +kernel
theorem dX12_works_449 : decode cX12_works 449 = .ok (.getfield 497, 3) := by decide +kernel
theorem dX12_works_452 : decode cX12_works 452 = .ok (.iconst 1, 1) := by decide +kernel
theorem dX12_works_453 : decode cX12_works 453 = .ok (.isub, 1) := by decide +kernel
theorem dX12_works_454 : decode cX12_works 454 = .ok (.iload 4, 2) := by decide +kernel
theorem dX12_works_456 : decode cX12_works 456 = .ok (.iload 5, 2) := by decide +kernel
theorem dX12_works_458 : decode cX12_works 458 = .ok (.iadd, 1) := by decide +kernel
theorem dX12_works_459 : decode cX12_works 459 = .ok (.iastore, 1) := by decide +kernel
theorem dX12_works_460 : decode cX12_works 460 = .ok (.goto 420, 3) := by decide +kernel
theorem dX12_works_463 : decode cX12_works 463 = .ok (.aload_n 0, 1) := by decide +kernel
theorem dX12_works_464 : decode cX12_works 464 = .ok (.getfield 126, 3) := by decide +kernel
theorem dX12_works_467 : decode cX12_works 467 = .ok (.aload_n 0, 1) := by decide +kernel
theorem dX12_works_468 : decode cX12_works 468 = .ok (.getfield 497, 3) := by decide +kernel
theorem dX12_works_471 : decode cX12_works 471 = .ok (.iconst 1, 1) := by decide +kernel
theorem dX12_works_472 : decode cX12_works 472 = .ok (.isub, 1) := by decide +kernel
theorem dX12_works_473 : decode cX12_works 473 = .ok (.aload_n 0, 1) := by decide +kernel
theorem dX12_works_474 : decode cX12_works 474 = .ok (.getfield 135, 3) := by decide +kernel
theorem dX12_works_477 : decode cX12_works 477 = .ok (.aload_n 0, 1) := by decide +kernel
theorem dX12_works_478 : decode cX12_works 478 = .ok (.getfield 126, 3) := by decide +kernel
theorem dX12_works_481 : decode cX12_works 481 = .ok (.aload_n 0, 1) := by decide +kernel
theorem dX12_works_482 : decode cX12_works 482 = .ok (.getfield 497, 3) := by decide +kernel
theorem dX12_works_485 : decode cX12_works 485 = .ok (.iconst 1, 1) := by decide +kernel
theorem dX12_works_486 : decode cX12_works 486 = .ok (.isub, 1) := by decide +kernel
theorem dX12_works_487 : decode cX12_works 487 = .ok (.iaload, 1) := by decide +kernel
theorem dX12_works_488 : decode cX12_works 488 = .ok (.iaload, 1) := by decide +kernel
theorem dX12_works_489 : decode cX12_works 489 = .ok (.iastore, 1) := by decide +kernel
theorem dX12_works_490 : decode cX12_works 490 = .ok (.goto 390, 3) := by decide +kernel
theorem dX12_works_493 : decode cX12_works 493 = .ok (.aload_n 0, 1) := by decide +kernel
theorem dX12_works_494 : decode cX12_works 494 = .ok (.dup, 1) := by decide +kernel
theorem dX12_works_495 : decode cX12_works 495 = .ok (.getfield 497, 3) := by decide +kernel
theorem dX12_works_498 : decode cX12_works 498 = .ok (.iconst 2, 1) := by decide +kernel
theorem dX12_works_499 : decode cX12_works 499 = .ok (.isub, 1) := by decide +kernel
theorem dX12_works_500 : decode cX12_works 500 = .ok (.putfield 497, 3) := by decide +kernel
theorem dX12_works_503 : decode cX12_works 503 = .ok (.aload_n 0, 1) := by decide +kernel
theorem dX12_works_504 : decode cX12_works 504 = .ok (.getfield 135, 3) := by decide +kernel
theorem dX12_works_507 : decode cX12_works 507 = .ok (.aload_n 0, 1) := by decide +kernel
theorem dX12_works_508 : decode cX12_works 508 = .ok (.getfield 126, 3) := by decide +kernel
theorem dX12_works_511 : decode cX12_works 511 = .ok (.aload_n 0, 1) := by decide +kernel
theorem dX12_works_512 : decode cX12_works 512 = .ok (.getfield 497, 3) := by decide +kernel
theorem dX12_works_515 : decode cX12_works 515 = .ok (.iaload, 1) := by decide +kernel
theorem dX12_works_516 : decode cX12_works 516 = .ok (.iload_n 1, 1) := by decide +kernel
theorem dX12_works_517 : decode cX12_works 517 = .ok (.iconst 1, 1) := by decide +kernel
theorem dX12_works_518 : decode cX12_works 518 = .ok (.if_icmp .ne 21, 3) := by decide +kernel
theorem dX12_works_521 : decode cX12_works 521 = .ok (.aload_n 0, 1) := by decide +kernel
theorem dX12_works_522 : decode cX12_works 522 = .ok (.getfield 126, 3) := by decide +kernel
theorem dX12_works_525 : decode cX12_works 525 = .ok (.aload_n 0, 1) := by decide +kernel
theorem dX12_works_526 : decode cX12_works 526 = .ok (.getfield 497, 3) := by decide +kernel
theorem dX12_works_529 : decode cX12_works 529 = .ok (.iconst 1, 1) := by decide +kernel
theorem dX12_works_530 : decode cX12_works 530 = .ok (.iadd, 1) := by decide +kernel
theorem dX12_works_531 : decode cX12_works 531 = .ok (.iaload, 1) := by decide +kernel
theorem dX12_works_532 : decode cX12_works 532 = .ok (.sipush 255, 3) := by decide +kernel
theorem dX12_works_535 : decode cX12_works 535 = .ok (.iand, 1) := by decide +kernel
theorem dX12_works_536 : decode cX12_works 536 = .ok (.goto 14, 3) := by decide +kernel
theorem dX12_works_539 : decode cX12_works 539 = .ok (.aload_n 0, 1) := by decide +kernel
theorem dX12_works_540 : decode cX12_works 540 = .ok (.getfield 126, 3) := by decide +kernel
theorem dX12_works_543 : decode cX12_works 543 = .ok (.aload_n 0, 1) := by decide +kernel
theorem dX12_works_544 : decode cX12_works 544 = .ok (.getfield 497, 3) := by decide +kernel
theorem dX12_works_547 : decode cX12_works 547 = .ok (.iconst 1, 1) := by decide +kernel
theorem dX12_works_548 : decode cX12_works 548 = .ok (.iadd, 1) := by decide +kernel
theorem dX12_works_549 : decode cX12_works 549 = .ok (.iaload, 1) := by decide +kernel
theorem dX12_works_550 : decode cX12_works 550 = .ok (.iastore, 1) := by decide +kernel
theorem dX12_works_551 : decode cX12_works 551 = .ok (.goto 329, 3) := by decide +kernel
theorem dX12_works_554 : decode cX12_works 554 = .ok (.aload_n 0, 1) := by decide +kernel
theorem dX12_works_555 : decode cX12_works 555 = .ok (.getfield 126, 3) := by decide +kernel
theorem dX12_works_558 : decode cX12_works 558 = .ok (.aload_n 0, 1) := by decide +kernel
theorem dX12_works_559 : decode cX12_works 559 = .ok (.getfield 497, 3) := by decide +kernel
theorem dX12_works_562 : decode cX12_works 562 = .ok (.aload_n 0, 1) := by decide +kernel
theorem dX12_works_563 : decode cX12_works 563 = .ok (.getfield 126, 3) := by decide +kernel
theorem dX12_works_566 : decode cX12_works 566 = .ok (.aload_n 0, 1) := by decide +kernel
theorem dX12_works_567 : decode cX12_works 567 = .ok (.getfield 497, 3) := by decide +kernel
theorem dX12_works_570 : decode cX12_works 570 = .ok (.iconst 1, 1) := by decide +kernel
theorem dX12_works_571 : decode cX12_works 571 = .ok (.isub, 1) := by decide +kernel
theorem dX12_works_572 : decode cX12_works 572 = .ok (.iaload, 1) := by decide +kernel
theorem dX12_works_573 : decode cX12_works 573 = .ok (.iastore, 1) := by decide +kernel
theorem dX12_works_574 : decode cX12_works 574 = .ok (.aload_n 0, 1) := by decide +kernel
theorem dX12_works_575 : decode cX12_works 575 = .ok (.dup, 1) := by decide +kernel
theorem dX12_works_576 : decode cX12_works 576 = .ok (.getfield 497, 3) := by decide +kernel
theorem dX12_works_579 : decode cX12_works 579 = .ok (.iconst 1, 1) := by decide +kernel
theorem dX12_works_580 : decode cX12_works 580 = .ok (.iadd, 1) := by decide +kernel
theorem dX12_works_581 : decode cX12_works 581 = .ok (.putfield 497, 3) := by decide +kernel
theorem dX12_works_584 : decode cX12_works 584 = .ok (.goto 296, 3) := by decide +kernel
theorem dX12_works_587 : decode cX12_works 587 = .ok (.aload_n 0, 1) := by decide +kernel
theorem dX12_works_588 : decode cX12_works 588 = .ok (.getfield 556, 3) := by decide +kernel
theorem dX12_works_591 : decode cX12_works 591 = .ok (.ifCond .ne 5, 3) := by decide +kernel
theorem dX12_works_594 : decode cX12_works 594 = .ok (.iconst 0, 1) := by decide +kernel
theorem dX12_works_595 : decode cX12_works 595 = .ok (.ireturn, 1) := by decide +kernel
theorem dX12_works_596 : decode cX12_works 596 = .ok (.aload_n 0, 1) := by decide +kernel
theorem dX12_works_597 : decode cX12_works 597 = .ok (.dup, 1) := by decide +kernel
theorem dX12_works_598 : decode cX12_works 598 = .ok (.getfield 556, 3) := by decide +kernel
theorem dX12_works_601 : decode cX12_works 601 = .ok (.iconst 1, 1) := by decide +kernel
theorem dX12_works_602 : decode cX12_works 602 = .ok (.isub, 1) := by decide +kernel
theorem dX12_works_603 : decode cX12_works 603 = .ok (.putfield 556, 3) := by decide +kernel
theorem dX12_works_606 : decode cX12_works 606 = .ok (.aload_n 0, 1) := by decide +kernel
theorem dX12_works_607 : decode cX12_works 607 = .ok (.dup, 1) := by decide +kernel
theorem dX12_works_608 : decode cX12_works 608 = .ok (.getfield 536, 3) := by decide +kernel
theorem dX12_works_611 : decode cX12_works 611 = .ok (.iconst 1, 1) := by decide +kernel
theorem dX12_works_612 : decode cX12_works 612 = .ok (.iadd, 1) := by decide +kernel
theorem dX12_works_613 : decode cX12_works 613 = .ok (.putfield 536, 3) := by decide +kernel
theorem dX12_works_616 : decode cX12_works 616 = .ok (.goto 264, 3) := by decide +kernel
theorem dX12_works_619 : decode cX12_works 619 = .ok (.aload_n 0, 1) := by decide +kernel
theorem dX12_works_620 : decode cX12_works 620 = .ok (.iload_n 1, 1) := by decide +kernel
theorem dX12_works_621 : decode cX12_works 621 = .ok (.iload_n 2, 1) := by decide +kernel
theorem dX12_works_622 : decode cX12_works 622 = .ok (.aload_n 0, 1) := by decide +kernel
theorem dX12_works_623 : decode cX12_works 623 = .ok (.getfield 553, 3) := by decide +kernel
theorem dX12_works_626 : decode cX12_works 626 = .ok (.iconst 1, 1) := by decide +kernel
theorem dX12_works_627 : decode cX12_works 627 = .ok (.iadd, 1) := by decide +kernel
theorem dX12_works_628 : decode cX12_works 628 = .ok (.invokevirtual 559, 3) := by decide +kernel
theorem dX12_works_631 : decode cX12_works 631 = .ok (.ireturn, 1) := by decide +kernel
theorem dX12_works_632 : decode cX12_works 632 = .ok (.aload_n 0, 1) := by decide +kernel
theorem dX12_works_633 : decode cX12_works 633 = .ok (.invokevirtual 566, 3) := by decide +kernel
theorem dX12_works_636 : decode cX12_works 636 = .ok (.aload_n 0, 1) := by decide +kernel
theorem dX12_works_637 : decode cX12_works 637 = .ok (.getfield 512, 3) := by decide +kernel
theorem dX12_works_640 : decode cX12_works 640 = .ok (.iconst 1, 1) := by decide +kernel
theorem dX12_works_641 : decode cX12_works 641 = .ok (.if_icmp .ne 7, 3) := by decide +kernel
theorem dX12_works_644 : decode cX12_works 644 = .ok (.iconst 1, 1) := by decide +kernel
theorem dX12_works_645 : decode cX12_works 645 = .ok (.goto 4, 3) := by decide +kernel
theorem dX12_works_648 : decode cX12_works 648 = .ok (.iconst 0, 1) := by decide +kernel
theorem dX12_works_649 : decode cX12_works 649 = .ok (.ireturn, 1) := by decide +kernel
theorem dX12_works_650 : decode cX12_works 650 = .ok (.aload_n 0, 1) := by decide +kernel
theorem dX12_works_651 : decode cX12_works 651 = .ok (.dup, 1) := by decide +kernel
theorem dX12_works_652 : decode cX12_works 652 = .ok (.getfield 497, 3) := by decide +kernel
theorem dX12_works_655 : decode cX12_works 655 = .ok (.iconst 1, 1) := by decide +kernel
theorem dX12_works_656 : decode cX12_works 656 = .ok (.isub, 1) := by decide +kernel
theorem dX12_works_657 : decode cX12_works 657 = .ok (.putfield 497, 3) := by decide +kernel
theorem dX12_works_660 : decode cX12_works 660 = .ok (.goto 220, 3) := by decide +kernel
theorem dX12_works_663 : decode cX12_works 663 = .ok (.aload_n 0, 1) := by decide +kernel
theorem dX12_works_664 : decode cX12_works 664 = .ok (.dup, 1) := by decide +kernel
theorem dX12_works_665 : decode cX12_works 665 = .ok (.getfield 497, 3) := by decide +kernel
theorem dX12_works_668 : decode cX12_works 668 = .ok (.iconst 1, 1) := by decide +kernel
theorem dX12_works_669 : decode cX12_works 669 = .ok (.isub, 1) := by decide +kernel
theorem dX12_works_670 : decode cX12_works 670 = .ok (.putfield 497, 3) := by decide +kernel
theorem dX12_works_673 : decode cX12_works 673 = .ok (.aload_n 0, 1) := by decide +kernel
theorem dX12_works_674 : decode cX12_works 674 = .ok (.getfield 518, 3) := by decide +kernel
theorem dX12_works_677 : decode cX12_works 677 = .ok (.sipush 2000, 3) := by decide +kernel
theorem dX12_works_680 : decode cX12_works 680 = .ok (.if_icmp .ge 21, 3) := by decide +kernel
theorem dX12_works_683 : decode cX12_works 683 = .ok (.aload_n 0, 1) := by decide +kernel
theorem dX12_works_684 : decode cX12_works 684 = .ok (.getfield 132, 3) := by decide +kernel
theorem dX12_works_687 : decode cX12_works 687 = .ok (.aload_n 0, 1) := by decide +kernel
theorem dX12_works_688 : decode cX12_works 688 = .ok (.getfield 518, 3) := by decide +kernel
theorem dX12_works_691 : decode cX12_works 691 = .ok (.aload_n 0, 1) := by decide +kernel
theorem dX12_works_692 : decode cX12_works 692 = .ok (.getfield 126, 3) := by decide +kernel
theorem dX12_works_695 : decode cX12_works 695 = .ok (.aload_n 0, 1) := by decide +kernel
theorem dX12_works_696 : decode cX12_works 696 = .ok (.getfield 497, 3) := by decide +kernel
theorem dX12_works_699 : decode cX12_works 699 = .ok (.iaload, 1) := by decide +kernel
theorem dX12_works_700 : decode cX12_works 700 = .ok (.iastore, 1) := by decide +kernel
theorem dX12_works_701 : decode cX12_works 701 = .ok (.aload_n 0, 1) := by decide +kernel
theorem dX12_works_702 : decode cX12_works 702 = .ok (.getfield 518, 3) := by decide +kernel
theorem dX12_works_705 : decode cX12_works 705 = .ok (.ldc_w 569, 3) := by decide +kernel
theorem dX12_works_708 : decode cX12_works 708 = .ok (.if_icmp .ge 172, 3) := by decide +kernel
theorem dX12_works_711 : decode cX12_works 711 = .ok (.aload_n 0, 1) := by decide +kernel
theorem dX12_works_712 : decode cX12_works 712 = .ok (.dup, 1) := by decide +kernel
theorem dX12_works_713 : decode cX12_works 713 = .ok (.getfield 518, 3) := by decide +kernel
theorem dX12_works_716 : decode cX12_works 716 = .ok (.iconst 1, 1) := by decide +kernel
theorem dX12_works_717 : decode cX12_works 717 = .ok (.iadd, 1) := by decide +kernel
theorem dX12_works_718 : decode cX12_works 718 = .ok (.putfield 518, 3) := by decide +kernel
theorem dX12_works_721 : decode cX12_works 721 = .ok (.goto 159, 3) := by decide +kernel
theorem dX12_works_724 : decode cX12_works 724 = .ok (.aload_n 0, 1) := by decide +kernel
theorem dX12_works_725 : decode cX12_works 725 = .ok (.dup, 1) := by decide +kernel
theorem dX12_works_726 : decode cX12_works 726 = .ok (.getfield 497, 3) := by decide +kernel
theorem dX12_works_729 : decode cX12_works 729 = .ok (.iconst 1, 1) := by decide +kernel
theorem dX12_works_730 : decode cX12_works 730 = .ok (.isub, 1) := by decide +kernel
theorem dX12_works_731 : decode cX12_works 731 = .ok (.putfield 497, 3) := by decide +kernel
theorem dX12_works_734 : decode cX12_works 734 = .ok (.aload_n 0, 1) := by decide +kernel
theorem dX12_works_735 : decode cX12_works 735 = .ok (.iconst 4, 1) := by decide +kernel
theorem dX12_works_736 : decode cX12_works 736 = .ok (.putfield 512, 3) := by decide +kernel
theorem dX12_works_739 : decode cX12_works 739 = .ok (.aload_n 0, 1) := by decide +kernel
theorem dX12_works_740 : decode cX12_works 740 = .ok (.aload_n 0, 1) := by decide +kernel
theorem dX12_works_741 : decode cX12_works 741 = .ok (.getfield 126, 3) := by decide +kernel
theorem dX12_works_744 : decode cX12_works 744 = .ok (.aload_n 0, 1) := by decide +kernel
theorem dX12_works_745 : decode cX12_works 745 = .ok (.getfield 497, 3) := by decide +kernel
theorem dX12_works_748 : decode cX12_works 748 = .ok (.iaload, 1) := by decide +kernel
theorem dX12_works_749 : decode cX12_works 749 = .ok (.putfield 539, 3) := by decide +kernel
theorem dX12_works_752 : decode cX12_works 752 = .ok (.iconst 0, 1) := by decide +kernel
theorem dX12_works_753 : decode cX12_works 753 = .ok (.ireturn, 1) := by decide +kernel
theorem dX12_works_754 : decode cX12_works 754 = .ok (.aload_n 0, 1) := by decide +kernel
theorem dX12_works_755 : decode cX12_works 755 = .ok (.getfield 515, 3) := by decide +kernel
theorem dX12_works_758 : decode cX12_works 758 = .ok (.ifCond .ne 10, 3) := by decide +kernel
theorem dX12_works_761 : decode cX12_works 761 = .ok (.aload_n 0, 1) := by decide +kernel
theorem dX12_works_762 : decode cX12_works 762 = .ok (.iconst 2, 1) := by decide +kernel
theorem dX12_works_763 : decode cX12_works 763 = .ok (.putfield 512, 3) := by decide +kernel
theorem dX12_works_766 : decode cX12_works 766 = .ok (.iconst 0, 1) := by decide +kernel
theorem dX12_works_767 : decode cX12_works 767 = .ok (.ireturn, 1) := by decide +kernel
theorem dX12_works_768 : decode cX12_works 768 = .ok (.aload_n 0, 1) := by decide +kernel
theorem dX12_works_769 : decode cX12_works 769 = .ok (.getfield 126, 3) := by decide +kernel
theorem dX12_works_772 : decode cX12_works 772 = .ok (.aload_n 0, 1) := by decide +kernel
theorem dX12_works_773 : decode cX12_works 773 = .ok (.getfield 497, 3) := by decide +kernel
theorem dX12_works_776 : decode cX12_works 776 = .ok (.aload_n 0, 1) := by decide +kernel
theorem dX12_works_777 : decode cX12_works 777 = .ok (.getfield 129, 3) := by decide +kernel
theorem dX12_works_780 : decode cX12_works 780 = .ok (.iconst 0, 1) := by decide +kernel
theorem dX12_works_781 : decode cX12_works 781 = .ok (.iaload, 1) := by decide +kernel
theorem dX12_works_782 : decode cX12_works 782 = .ok (.iastore, 1) := by decide +kernel
theorem dX12_works_783 : decode cX12_works 783 = .ok (.aload_n 0, 1) := by decide +kernel
theorem dX12_works_784 : decode cX12_works 784 = .ok (.dup, 1) := by decide +kernel
theorem dX12_works_785 : decode cX12_works 785 = .ok (.getfield 497, 3) := by decide +kernel
theorem dX12_works_788 : decode cX12_works 788 = .ok (.iconst 1, 1) := by decide +kernel
theorem dX12_works_789 : decode cX12_works 789 = .ok (.iadd, 1) := by decide +kernel
theorem dX12_works_790 : decode cX12_works 790 = .ok (.putfield 497, 3) := by decide +kernel
theorem dX12_works_793 : decode cX12_works 793 = .ok (.aload_n 0, 1) := by decide +kernel
theorem dX12_works_794 : decode cX12_works 794 = .ok (.dup, 1) := by decide +kernel
theorem dX12_works_795 : decode cX12_works 795 = .ok (.getfield 515, 3) := by decide +kernel
theorem dX12_works_798 : decode cX12_works 798 = .ok (.iconst 1, 1) := by decide +kernel
theorem dX12_works_799 : decode cX12_works 799 = .ok (.isub, 1) := by decide +kernel
theorem dX12_works_800 : decode cX12_works 800 = .ok (.putfield 515, 3) := by decide +kernel
theorem dX12_works_803 : decode cX12_works 803 = .ok (.iconst 0, 1) := by decide +kernel
theorem dX12_works_804 : decode cX12_works 804 = .ok (.istore_n 3, 1) := by decide +kernel
theorem dX12_works_805 : decode cX12_works 805 = .ok (.iload_n 3, 1) := by decide +kernel
theorem dX12_works_806 : decode cX12_works 806 = .ok (.aload_n 0, 1) := by decide +kernel
theorem dX12_works_807 : decode cX12_works 807 = .ok (.getfield 515, 3) := by decide +kernel
theorem dX12_works_810 : decode cX12_works 810 = .ok (.if_icmp .ge 23, 3) := by decide +kernel
theorem dX12_works_813 : decode cX12_works 813 = .ok (.aload_n 0, 1) := by decide +kernel
theorem dX12_works_814 : decode cX12_works 814 = .ok (.getfield 129, 3) := by decide +kernel
theorem dX12_works_817 : decode cX12_works 817 = .ok (.iload_n 3, 1) := by decide +kernel
theorem dX12_works_818 : decode cX12_works 818 = .ok (.aload_n 0, 1) := by decide +kernel
theorem dX12_works_819 : decode cX12_works 819 = .ok (.getfield 129, 3) := by decide +kernel
theorem dX12_works_822 : decode cX12_works 822 = .ok (.iload_n 3, 1) := by decide +kernel
theorem dX12_works_823 : decode cX12_works 823 = .ok (.iconst 1, 1) := by decide +kernel
theorem dX12_works_824 : decode cX12_works 824 = .ok (.iadd, 1) := by decide +kernel
theorem dX12_works_825 : decode cX12_works 825 = .ok (.iaload, 1) := by decide +kernel
theorem dX12_works_826 : decode cX12_works 826 = .ok (.iastore, 1) := by decide +kernel
theorem dX12_works_827 : decode cX12_works 827 = .ok (.iinc 3 1, 3) := by decide +kernel
theorem dX12_works_830 : decode cX12_works 830 = .ok (.goto (-25), 3) := by decide +kernel
theorem dX12_works_833 : decode cX12_works 833 = .ok (.goto 47, 3) := by decide +kernel
theorem dX12_works_836 : decode cX12_works 836 = .ok (.iconst 0, 1) := by decide +kernel
theorem dX12_works_837 : decode cX12_works 837 = .ok (.istore_n 3, 1) := by decide +kernel
theorem dX12_works_838 : decode cX12_works 838 = .ok (.iload_n 3, 1) := by decide +kernel
theorem dX12_works_839 : decode cX12_works 839 = .ok (.iload_n 2, 1) := by decide +kernel
theorem dX12_works_840 : decode cX12_works 840 = .ok (.if_icmp .ge 23, 3) := by decide +kernel
theorem dX12_works_843 : decode cX12_works 843 = .ok (.aload_n 0, 1) := by decide +kernel
theorem dX12_works_844 : decode cX12_works 844 = .ok (.getfield 135, 3) := by decide +kernel
theorem dX12_works_847 : decode cX12_works 847 = .ok (.aload_n 0, 1) := by decide +kernel
theorem dX12_works_848 : decode cX12_works 848 = .ok (.getfield 550, 3) := by decide +kernel
theorem dX12_works_851 : decode cX12_works 851 = .ok (.iload_n 1, 1) := by decide +kernel
theorem dX12_works_852 : decode cX12_works 852 = .ok (.iadd, 1) := by decide +kernel
theorem dX12_works_853 : decode cX12_works 853 = .ok (.iload_n 3, 1) := by decide +kernel
theorem dX12_works_854 : decode cX12_works 854 = .ok (.iadd, 1) := by decide +kernel
theorem dX12_works_855 : decode cX12_works 855 = .ok (.iconst 0, 1) := by decide +kernel
theorem dX12_works_856 : decode cX12_works 856 = .ok (.iastore, 1) := by decide +kernel
theorem dX12_works_857 : decode cX12_works 857 = .ok (.iinc 3 1, 3) := by decide +kernel
theorem dX12_works_860 : decode cX12_works 860 = .ok (.goto (-22), 3) := by decide +kernel
theorem dX12_works_863 : decode cX12_works 863 = .ok (.goto 17, 3) := by decide +kernel
theorem dX12_works_866 : decode cX12_works 866 = .ok (.aload_n 0, 1) := by decide +kernel
theorem dX12_works_867 : decode cX12_works 867 = .ok (.aload_n 0, 1) := by decide +kernel
theorem dX12_works_868 : decode cX12_works 868 = .ok (.aload_n 0, 1) := by decide +kernel
theorem dX12_works_869 : decode cX12_works 869 = .ok (.getfield 553, 3) := by decide +kernel
theorem dX12_works_872 : decode cX12_works 872 = .ok (.invokevirtual 506, 3) := by decide +kernel
theorem dX12_works_875 : decode cX12_works 875 = .ok (.putfield 553, 3) := by decide +kernel
theorem dX12_works_878 : decode cX12_works 878 = .ok (.iconst 1, 1) := by decide +kernel
theorem dX12_works_879 : decode cX12_works 879 = .ok (.ireturn, 1) := by decide +kernel
theorem dX12_works_880 : decode cX12_works 880 = .ok (.aload_n 0, 1) := by decide +kernel
theorem dX12_works_881 : decode cX12_works 881 = .ok (.dup, 1) := by decide +kernel
theorem dX12_works_882 : decode cX12_works 882 = .ok (.getfield 553, 3) := by decide +kernel
theorem dX12_works_885 : decode cX12_works 885 = .ok (.iconst 1, 1) := by decide +kernel
theorem dX12_works_886 : decode cX12_works 886 = .ok (.iadd, 1) := by decide +kernel
theorem dX12_works_887 : decode cX12_works 887 = .ok (.putfield 553, 3) := by decide +kernel
theorem dX12_works_890 : decode cX12_works 890 = .ok (.iconst 1, 1) := by decide +kernel
theorem dX12_works_891 : decode cX12_works 891 = .ok (.ireturn, 1) := by decide +kernel
theorem dX12_output_0 : decode cX12_output 0 = .ok (.iload_n 1, 1) := by decide +kernel
theorem dX12_output_1 : decode cX12_output 1 = .ok (.ifCond .lt 18, 3) := by decide +kernel
theorem dX12_output_4 : decode cX12_output 4 = .ok (.iload_n 1, 1) := by decide +kernel
theorem dX12_output_5 : decode cX12_output 5 = .ok (.aload_n 0, 1) := by decide +kernel
theorem dX12_output_6 : decode cX12_output 6 = .ok (.getfield 518, 3) := by decide +kernel
theorem dX12_output_9 : decode cX12_output 9 = .ok (.if_icmp .ge 10, 3) := by decide +kernel
theorem dX12_output_12 : decode cX12_output 12 = .ok (.iload_n 1, 1) := by decide +kernel
theorem dX12_output_13 : decode cX12_output 13 = .ok (.sipush 2000, 3) := by decide +kernel
theorem dX12_output_16 : decode cX12_output 16 = .ok (.if_icmp .lt 7, 3) := by decide +kernel
theorem dX12_output_19 : decode cX12_output 19 = .ok (.iconst 0, 1) := by decide +kernel
theorem dX12_output_20 : decode cX12_output 20 = .ok (.goto 9, 3) := by decide +kernel
theorem dX12_output_23 : decode cX12_output 23 = .ok (.aload_n 0, 1) := by decide +kernel
theorem dX12_output_24 : decode cX12_output 24 = .ok (.getfield 132, 3) := by decide +kernel
theorem dX12_output_27 : decode cX12_output 27 = .ok (.iload_n 1, 1) := by decide +kernel
theorem dX12_output_28 : decode cX12_output 28 = .ok (.iaload, 1) := by decide +kernel
theorem dX12_output_29 : decode cX12_output 29 = .ok (.ireturn, 1) := by decide +kernel
theorem dX12_world_0 : decode cX12_world 0 = .ok (.iload_n 1, 1) := by decide +kernel
theorem dX12_world_1 : decode cX12_world 1 = .ok (.tableswitch 161 0 7 #[47, 52, 68, 73, 78, 103, 129, 145], 47) := by decide +kernel
theorem dX12_world_48 : decode cX12_world 48 = .ok (.aload_n 0, 1) := by decide +kernel
theorem dX12_world_49 : decode cX12_world 49 = .ok (.getfield 512, 3) := by decide +kernel
theorem dX12_world_52 : decode cX12_world 52 = .ok (.ireturn, 1) := by decide +kernel
theorem dX12_world_53 : decode cX12_world 53 = .ok (.aload_n 0, 1) := by decide +kernel
theorem dX12_world_54 : decode cX12_world 54 = .ok (.getfield 512, 3) := by decide +kernel
theorem dX12_world_57 : decode cX12_world 57 = .ok (.ifCond .ne 7, 3) := by decide +kernel
theorem dX12_world_60 : decode cX12_world 60 = .ok (.iconst 0, 1) := by decide +kernel
theorem dX12_world_61 : decode cX12_world 61 = .ok (.goto 7, 3) := by decide +kernel
theorem dX12_world_64 : decode cX12_world 64 = .ok (.aload_n 0, 1) := by decide +kernel
theorem dX12_world_65 : decode cX12_world 65 = .ok (.getfield 536, 3) := by decide +kernel
theorem dX12_world_68 : decode cX12_world 68 = .ok (.ireturn, 1) := by decide +kernel
theorem dX12_world_69 : decode cX12_world 69 = .ok (.aload_n 0, 1) := by decide +kernel
theorem dX12_world_70 : decode cX12_world 70 = .ok (.getfield 518, 3) := by decide +kernel
theorem dX12_world_73 : decode cX12_world 73 = .ok (.ireturn, 1) := by decide +kernel
theorem dX12_world_74 : decode cX12_world 74 = .ok (.aload_n 0, 1) := by decide +kernel
theorem dX12_world_75 : decode cX12_world 75 = .ok (.getfield 515, 3) := by decide +kernel
theorem dX12_world_78 : decode cX12_world 78 = .ok (.ireturn, 1) := by decide +kernel
theorem dX12_world_79 : decode cX12_world 79 = .ok (.aload_n 0, 1) := by decide +kernel
theorem dX12_world_80 : decode cX12_world 80 = .ok (.getfield 512, 3) := by decide +kernel
theorem dX12_world_83 : decode cX12_world 83 = .ok (.iconst 3, 1) := by decide +kernel
theorem dX12_world_84 : decode cX12_world 84 = .ok (.if_icmp .eq 11, 3) := by decide +kernel
theorem dX12_world_87 : decode cX12_world 87 = .ok (.aload_n 0, 1) := by decide +kernel
theorem dX12_world_88 : decode cX12_world 88 = .ok (.getfield 512, 3) := by decide +kernel
theorem dX12_world_91 : decode cX12_world 91 = .ok (.iconst 4, 1) := by decide +kernel
theorem dX12_world_92 : decode cX12_world 92 = .ok (.if_icmp .ne 10, 3) := by decide +kernel
theorem dX12_world_95 : decode cX12_world 95 = .ok (.aload_n 0, 1) := by decide +kernel
theorem dX12_world_96 : decode cX12_world 96 = .ok (.getfield 539, 3) := by decide +kernel
theorem dX12_world_99 : decode cX12_world 99 = .ok (.goto 4, 3) := by decide +kernel
theorem dX12_world_102 : decode cX12_world 102 = .ok (.iconst 0, 1) := by decide +kernel
theorem dX12_world_103 : decode cX12_world 103 = .ok (.ireturn, 1) := by decide +kernel
theorem dX12_world_104 : decode cX12_world 104 = .ok (.aload_n 0, 1) := by decide +kernel
theorem dX12_world_105 : decode cX12_world 105 = .ok (.getfield 512, 3) := by decide +kernel
theorem dX12_world_108 : decode cX12_world 108 = .ok (.iconst 5, 1) := by decide +kernel
theorem dX12_world_109 : decode cX12_world 109 = .ok (.if_icmp .eq 12, 3) := by decide +kernel
theorem dX12_world_112 : decode cX12_world 112 = .ok (.aload_n 0, 1) := by decide +kernel
theorem dX12_world_113 : decode cX12_world 113 = .ok (.getfield 512, 3) := by decide +kernel
theorem dX12_world_116 : decode cX12_world 116 = .ok (.bipush 6, 2) := by decide +kernel
theorem dX12_world_118 : decode cX12_world 118 = .ok (.if_icmp .ne 10, 3) := by decide +kernel
theorem dX12_world_121 : decode cX12_world 121 = .ok (.aload_n 0, 1) := by decide +kernel
theorem dX12_world_122 : decode cX12_world 122 = .ok (.getfield 541, 3) := by decide +kernel
theorem dX12_world_125 : decode cX12_world 125 = .ok (.goto 4, 3) := by decide +kernel
theorem dX12_world_128 : decode cX12_world 128 = .ok (.iconst (-1), 1) := by decide +kernel
theorem dX12_world_129 : decode cX12_world 129 = .ok (.ireturn, 1) := by decide +kernel
theorem dX12_world_130 : decode cX12_world 130 = .ok (.aload_n 0, 1) := by decide +kernel
theorem dX12_world_131 : decode cX12_world 131 = .ok (.getfield 512, 3) := by decide +kernel
theorem dX12_world_134 : decode cX12_world 134 = .ok (.ifCond .ne 7, 3) := by decide +kernel
theorem dX12_world_137 : decode cX12_world 137 = .ok (.iconst 0, 1) := by decide +kernel
theorem dX12_world_138 : decode cX12_world 138 = .ok (.goto 7, 3) := by decide +kernel
theorem dX12_world_141 : decode cX12_world 141 = .ok (.aload_n 0, 1) := by decide +kernel
theorem dX12_world_142 : decode cX12_world 142 = .ok (.getfield 544, 3) := by decide +kernel
theorem dX12_world_145 : decode cX12_world 145 = .ok (.ireturn, 1) := by decide +kernel
theorem dX12_world_146 : decode cX12_world 146 = .ok (.aload_n 0, 1) := by decide +kernel
theorem dX12_world_147 : decode cX12_world 147 = .ok (.getfield 512, 3) := by decide +kernel
theorem dX12_world_150 : decode cX12_world 150 = .ok (.ifCond .ne 7, 3) := by decide +kernel
theorem dX12_world_153 : decode cX12_world 153 = .ok (.iconst 0, 1) := by decide +kernel
theorem dX12_world_154 : decode cX12_world 154 = .ok (.goto 7, 3) := by decide +kernel
theorem dX12_world_157 : decode cX12_world 157 = .ok (.aload_n 0, 1) := by decide +kernel
theorem dX12_world_158 : decode cX12_world 158 = .ok (.getfield 530, 3) := by decide +kernel
theorem dX12_world_161 : decode cX12_world 161 = .ok (.ireturn, 1) := by decide +kernel
theorem dX12_world_162 : decode cX12_world 162 = .ok (.iconst (-1), 1) := by decide +kernel
theorem dX12_world_163 : decode cX12_world 163 = .ok (.ireturn, 1) := by decide +kernel
theorem dX12_global_0 : decode cX12_global 0 = .ok (.aload_n 0, 1) := by decide +kernel
theorem dX12_global_1 : decode cX12_global 1 = .ok (.getfield 509, 3) := by decide +kernel
theorem dX12_global_4 : decode cX12_global 4 = .ok (.ifCond .eq 15, 3) := by decide +kernel
theorem dX12_global_7 : decode cX12_global 7 = .ok (.iload_n 1, 1) := by decide +kernel
theorem dX12_global_8 : decode cX12_global 8 = .ok (.ifCond .lt 11, 3) := by decide +kernel
theorem dX12_global_11 : decode cX12_global 11 = .ok (.iload_n 1, 1) := by decide +kernel
theorem dX12_global_12 : decode cX12_global 12 = .ok (.aload_n 0, 1) := by decide +kernel
theorem dX12_global_13 : decode cX12_global 13 = .ok (.getfield 288, 3) := by decide +kernel
theorem dX12_global_16 : decode cX12_global 16 = .ok (.if_icmp .lt 5, 3) := by decide +kernel
theorem dX12_global_19 : decode cX12_global 19 = .ok (.iconst 0, 1) := by decide +kernel
theorem dX12_global_20 : decode cX12_global 20 = .ok (.ireturn, 1) := by decide +kernel
theorem dX12_global_21 : decode cX12_global 21 = .ok (.iconst 0, 1) := by decide +kernel
theorem dX12_global_22 : decode cX12_global 22 = .ok (.istore_n 2, 1) := by decide +kernel
theorem dX12_global_23 : decode cX12_global 23 = .ok (.aload_n 0, 1) := by decide +kernel
theorem dX12_global_24 : decode cX12_global 24 = .ok (.getfield 92, 3) := by decide +kernel
theorem dX12_global_27 : decode cX12_global 27 = .ok (.iload_n 1, 1) := by decide +kernel
theorem dX12_global_28 : decode cX12_global 28 = .ok (.iaload, 1) := by decide +kernel
theorem dX12_global_29 : decode cX12_global 29 = .ok (.iconst 1, 1) := by decide +kernel
theorem dX12_global_30 : decode cX12_global 30 = .ok (.isub, 1) := by decide +kernel
theorem dX12_global_31 : decode cX12_global 31 = .ok (.istore_n 3, 1) := by decide +kernel
theorem dX12_global_32 : decode cX12_global 32 = .ok (.iload_n 3, 1) := by decide +kernel
theorem dX12_global_33 : decode cX12_global 33 = .ok (.ifCond .lt 73, 3) := by decide +kernel
theorem dX12_global_36 : decode cX12_global 36 = .ok (.aload_n 0, 1) := by decide +kernel
theorem dX12_global_37 : decode cX12_global 37 = .ok (.getfield 512, 3) := by decide +kernel
theorem dX12_global_40 : decode cX12_global 40 = .ok (.ifCond .ne 19, 3) := by decide +kernel
theorem dX12_global_43 : decode cX12_global 43 = .ok (.aload_n 0, 1) := by decide +kernel
theorem dX12_global_44 : decode cX12_global 44 = .ok (.getfield 101, 3) := by decide +kernel
theorem dX12_global_47 : decode cX12_global 47 = .ok (.aload_n 0, 1) := by decide +kernel
theorem dX12_global_48 : decode cX12_global 48 = .ok (.getfield 95, 3) := by decide +kernel
theorem dX12_global_51 : decode cX12_global 51 = .ok (.iload_n 1, 1) := by decide +kernel
theorem dX12_global_52 : decode cX12_global 52 = .ok (.iaload, 1) := by decide +kernel
theorem dX12_global_53 : decode cX12_global 53 = .ok (.iload_n 3, 1) := by decide +kernel
theorem dX12_global_54 : decode cX12_global 54 = .ok (.iadd, 1) := by decide +kernel
theorem dX12_global_55 : decode cX12_global 55 = .ok (.iaload, 1) := by decide +kernel
theorem dX12_global_56 : decode cX12_global 56 = .ok (.goto 16, 3) := by decide +kernel
theorem dX12_global_59 : decode cX12_global 59 = .ok (.aload_n 0, 1) := by decide +kernel
theorem dX12_global_60 : decode cX12_global 60 = .ok (.getfield 135, 3) := by decide +kernel
theorem dX12_global_63 : decode cX12_global 63 = .ok (.aload_n 0, 1) := by decide +kernel
theorem dX12_global_64 : decode cX12_global 64 = .ok (.getfield 95, 3) := by decide +kernel
theorem dX12_global_67 : decode cX12_global 67 = .ok (.iload_n 1, 1) := by decide +kernel
theorem dX12_global_68 : decode cX12_global 68 = .ok (.iaload, 1) := by decide +kernel
theorem dX12_global_69 : decode cX12_global 69 = .ok (.iload_n 3, 1) := by decide +kernel
theorem dX12_global_70 : decode cX12_global 70 = .ok (.iadd, 1) := by decide +kernel
theorem dX12_global_71 : decode cX12_global 71 = .ok (.iaload, 1) := by decide +kernel
theorem dX12_global_72 : decode cX12_global 72 = .ok (.istore 4, 2) := by decide +kernel
theorem dX12_global_74 : decode cX12_global 74 = .ok (.aload_n 0, 1) := by decide +kernel
theorem dX12_global_75 : decode cX12_global 75 = .ok (.getfield 98, 3) := by decide +kernel
theorem dX12_global_78 : decode cX12_global 78 = .ok (.iload_n 1, 1) := by decide +kernel
theorem dX12_global_79 : decode cX12_global 79 = .ok (.baload, 1) := by decide +kernel
theorem dX12_global_80 : decode cX12_global 80 = .ok (.ifCond .eq 17, 3) := by decide +kernel
theorem dX12_global_83 : decode cX12_global 83 = .ok (.iload_n 2, 1) := by decide +kernel
theorem dX12_global_84 : decode cX12_global 84 = .ok (.bipush 8, 2) := by decide +kernel
theorem dX12_global_86 : decode cX12_global 86 = .ok (.ishl, 1) := by decide +kernel
theorem dX12_global_87 : decode cX12_global 87 = .ok (.iload 4, 2) := by decide +kernel
theorem dX12_global_89 : decode cX12_global 89 = .ok (.sipush 255, 3) := by decide +kernel
theorem dX12_global_92 : decode cX12_global 92 = .ok (.iand, 1) := by decide +kernel
theorem dX12_global_93 : decode cX12_global 93 = .ok (.ior, 1) := by decide +kernel
theorem dX12_global_94 : decode cX12_global 94 = .ok (.goto 5, 3) := by decide +kernel
theorem dX12_global_97 : decode cX12_global 97 = .ok (.iload 4, 2) := by decide +kernel
theorem dX12_global_99 : decode cX12_global 99 = .ok (.istore_n 2, 1) := by decide +kernel
theorem dX12_global_100 : decode cX12_global 100 = .ok (.iinc 3 (-1), 3) := by decide +kernel
theorem dX12_global_103 : decode cX12_global 103 = .ok (.goto (-71), 3) := by decide +kernel
theorem dX12_global_106 : decode cX12_global 106 = .ok (.iload_n 2, 1) := by decide +kernel
theorem dX12_global_107 : decode cX12_global 107 = .ok (.ireturn, 1) := by decide +kernel
theorem dX12_put_0 : decode cX12_put 0 = .ok (.iload_n 1, 1) := by decide +kernel
theorem dX12_put_1 : decode cX12_put 1 = .ok (.iconst 3, 1) := by decide +kernel
theorem dX12_put_2 : decode cX12_put 2 = .ok (.iand, 1) := by decide +kernel
theorem dX12_put_3 : decode cX12_put 3 = .ok (.ifCond .ne 14, 3) := by decide +kernel
theorem dX12_put_6 : decode cX12_put 6 = .ok (.iload_n 1, 1) := by decide +kernel
theorem dX12_put_7 : decode cX12_put 7 = .ok (.ifCond .lt 10, 3) := by decide +kernel
theorem dX12_put_10 : decode cX12_put 10 = .ok (.iload_n 1, 1) := by decide +kernel
theorem dX12_put_11 : decode cX12_put 11 = .ok (.sipush 16380, 3) := by decide +kernel
theorem dX12_put_14 : decode cX12_put 14 = .ok (.if_icmp .le 5, 3) := by decide +kernel
theorem dX12_put_17 : decode cX12_put 17 = .ok (.iconst 0, 1) := by decide +kernel
theorem dX12_put_18 : decode cX12_put 18 = .ok (.ireturn, 1) := by decide +kernel
theorem dX12_put_19 : decode cX12_put 19 = .ok (.aload_n 0, 1) := by decide +kernel
theorem dX12_put_20 : decode cX12_put 20 = .ok (.getfield 147, 3) := by decide +kernel
theorem dX12_put_23 : decode cX12_put 23 = .ok (.iload_n 1, 1) := by decide +kernel
theorem dX12_put_24 : decode cX12_put 24 = .ok (.iconst 2, 1) := by decide +kernel
theorem dX12_put_25 : decode cX12_put 25 = .ok (.ishr, 1) := by decide +kernel
theorem dX12_put_26 : decode cX12_put 26 = .ok (.iload_n 2, 1) := by decide +kernel
theorem dX12_put_27 : decode cX12_put 27 = .ok (.iastore, 1) := by decide +kernel
theorem dX12_put_28 : decode cX12_put 28 = .ok (.iconst 1, 1) := by decide +kernel
theorem dX12_put_29 : decode cX12_put 29 = .ok (.ireturn, 1) := by decide +kernel
theorem dX12_set_0 : decode cX12_set 0 = .ok (.iload_n 1, 1) := by decide +kernel
theorem dX12_set_1 : decode cX12_set 1 = .ok (.iconst 1, 1) := by decide +kernel
theorem dX12_set_2 : decode cX12_set 2 = .ok (.if_icmp .lt 9, 3) := by decide +kernel
theorem dX12_set_5 : decode cX12_set 5 = .ok (.iload_n 1, 1) := by decide +kernel
theorem dX12_set_6 : decode cX12_set 6 = .ok (.bipush 32, 2) := by decide +kernel
theorem dX12_set_8 : decode cX12_set 8 = .ok (.if_icmp .le 5, 3) := by decide +kernel
theorem dX12_set_11 : decode cX12_set 11 = .ok (.iconst 0, 1) := by decide +kernel
theorem dX12_set_12 : decode cX12_set 12 = .ok (.ireturn, 1) := by decide +kernel
theorem dX12_set_13 : decode cX12_set 13 = .ok (.aload_n 0, 1) := by decide +kernel
theorem dX12_set_14 : decode cX12_set 14 = .ok (.getfield 150, 3) := by decide +kernel
theorem dX12_set_17 : decode cX12_set 17 = .ok (.iload_n 1, 1) := by decide +kernel
theorem dX12_set_18 : decode cX12_set 18 = .ok (.iload_n 2, 1) := by decide +kernel
theorem dX12_set_19 : decode cX12_set 19 = .ok (.iastore, 1) := by decide +kernel
theorem dX12_set_20 : decode cX12_set 20 = .ok (.iconst 1, 1) := by decide +kernel
theorem dX12_set_21 : decode cX12_set 21 = .ok (.ireturn, 1) := by decide +kernel
theorem dX12_board_0 : decode cX12_board 0 = .ok (.iload_n 1, 1) := by decide +kernel
theorem dX12_board_1 : decode cX12_board 1 = .ok (.ifCond .lt 18, 3) := by decide +kernel
theorem dX12_board_4 : decode cX12_board 4 = .ok (.iload_n 1, 1) := by decide +kernel
theorem dX12_board_5 : decode cX12_board 5 = .ok (.bipush 33, 2) := by decide +kernel
theorem dX12_board_7 : decode cX12_board 7 = .ok (.if_icmp .ge 12, 3) := by decide +kernel
theorem dX12_board_10 : decode cX12_board 10 = .ok (.aload_n 0, 1) := by decide +kernel
theorem dX12_board_11 : decode cX12_board 11 = .ok (.getfield 150, 3) := by decide +kernel
theorem dX12_board_14 : decode cX12_board 14 = .ok (.iload_n 1, 1) := by decide +kernel
theorem dX12_board_15 : decode cX12_board 15 = .ok (.iaload, 1) := by decide +kernel
theorem dX12_board_16 : decode cX12_board 16 = .ok (.goto 42, 3) := by decide +kernel
theorem dX12_board_19 : decode cX12_board 19 = .ok (.iload_n 1, 1) := by decide +kernel
theorem dX12_board_20 : decode cX12_board 20 = .ok (.bipush 33, 2) := by decide +kernel
theorem dX12_board_22 : decode cX12_board 22 = .ok (.if_icmp .ne 10, 3) := by decide +kernel
theorem dX12_board_25 : decode cX12_board 25 = .ok (.aload_n 0, 1) := by decide +kernel
theorem dX12_board_26 : decode cX12_board 26 = .ok (.getfield 570, 3) := by decide +kernel
theorem dX12_board_29 : decode cX12_board 29 = .ok (.goto 29, 3) := by decide +kernel
theorem dX12_board_32 : decode cX12_board 32 = .ok (.iload_n 1, 1) := by decide +kernel
theorem dX12_board_33 : decode cX12_board 33 = .ok (.bipush 100, 2) := by decide +kernel
theorem dX12_board_35 : decode cX12_board 35 = .ok (.if_icmp .lt 22, 3) := by decide +kernel
theorem dX12_board_38 : decode cX12_board 38 = .ok (.iload_n 1, 1) := by decide +kernel
theorem dX12_board_39 : decode cX12_board 39 = .ok (.sipush 4196, 3) := by decide +kernel
theorem dX12_board_42 : decode cX12_board 42 = .ok (.if_icmp .ge 15, 3) := by decide +kernel
theorem dX12_board_45 : decode cX12_board 45 = .ok (.aload_n 0, 1) := by decide +kernel
theorem dX12_board_46 : decode cX12_board 46 = .ok (.getfield 147, 3) := by decide +kernel
theorem dX12_board_49 : decode cX12_board 49 = .ok (.iload_n 1, 1) := by decide +kernel
theorem dX12_board_50 : decode cX12_board 50 = .ok (.bipush 100, 2) := by decide +kernel
theorem dX12_board_52 : decode cX12_board 52 = .ok (.isub, 1) := by decide +kernel
theorem dX12_board_53 : decode cX12_board 53 = .ok (.iaload, 1) := by decide +kernel
theorem dX12_board_54 : decode cX12_board 54 = .ok (.goto 4, 3) := by decide +kernel
theorem dX12_board_57 : decode cX12_board 57 = .ok (.iconst (-1), 1) := by decide +kernel
theorem dX12_board_58 : decode cX12_board 58 = .ok (.ireturn, 1) := by decide +kernel
theorem dX12_go_0 : decode cX12_go 0 = .ok (.iload_n 1, 1) := by decide +kernel
theorem dX12_go_1 : decode cX12_go 1 = .ok (.iconst 1, 1) := by decide +kernel
theorem dX12_go_2 : decode cX12_go 2 = .ok (.if_icmp .lt 10, 3) := by decide +kernel
theorem dX12_go_5 : decode cX12_go 5 = .ok (.iload_n 1, 1) := by decide +kernel
theorem dX12_go_6 : decode cX12_go 6 = .ok (.sipush 1000, 3) := by decide +kernel
theorem dX12_go_9 : decode cX12_go 9 = .ok (.if_icmp .le 5, 3) := by decide +kernel
theorem dX12_go_12 : decode cX12_go 12 = .ok (.iconst (-1), 1) := by decide +kernel
theorem dX12_go_13 : decode cX12_go 13 = .ok (.ireturn, 1) := by decide +kernel
theorem dX12_go_14 : decode cX12_go 14 = .ok (.iconst 0, 1) := by decide +kernel
theorem dX12_go_15 : decode cX12_go 15 = .ok (.istore_n 2, 1) := by decide +kernel
theorem dX12_go_16 : decode cX12_go 16 = .ok (.iconst 0, 1) := by decide +kernel
theorem dX12_go_17 : decode cX12_go 17 = .ok (.istore_n 3, 1) := by decide +kernel
theorem dX12_go_18 : decode cX12_go 18 = .ok (.iload_n 3, 1) := by decide +kernel
theorem dX12_go_19 : decode cX12_go 19 = .ok (.iload_n 1, 1) := by decide +kernel
theorem dX12_go_20 : decode cX12_go 20 = .ok (.if_icmp .ge 18, 3) := by decide +kernel
theorem dX12_go_23 : decode cX12_go 23 = .ok (.iload_n 2, 1) := by decide +kernel
theorem dX12_go_24 : decode cX12_go 24 = .ok (.ifCond .ne 14, 3) := by decide +kernel
theorem dX12_go_27 : decode cX12_go 27 = .ok (.aload_n 0, 1) := by decide +kernel
theorem dX12_go_28 : decode cX12_go 28 = .ok (.invokevirtual 573, 3) := by decide +kernel
theorem dX12_go_31 : decode cX12_go 31 = .ok (.istore_n 2, 1) := by decide +kernel
theorem dX12_go_32 : decode cX12_go 32 = .ok (.iinc 3 1, 3) := by decide +kernel
theorem dX12_go_35 : decode cX12_go 35 = .ok (.goto (-17), 3) := by decide +kernel
theorem dX12_go_38 : decode cX12_go 38 = .ok (.iload_n 2, 1) := by decide +kernel
theorem dX12_go_39 : decode cX12_go 39 = .ok (.ireturn, 1) := by decide +kernel
theorem dX12_part_0 : decode cX12_part 0 = .ok (.iload_n 0, 1) := by decide +kernel
theorem dX12_part_1 : decode cX12_part 1 = .ok (.iload_n 1, 1) := by decide +kernel
theorem dX12_part_2 : decode cX12_part 2 = .ok (.iushr, 1) := by decide +kernel
theorem dX12_part_3 : decode cX12_part 3 = .ok (.iconst 1, 1) := by decide +kernel
theorem dX12_part_4 : decode cX12_part 4 = .ok (.iload_n 2, 1) := by decide +kernel
theorem dX12_part_5 : decode cX12_part 5 = .ok (.ishl, 1) := by decide +kernel
theorem dX12_part_6 : decode cX12_part 6 = .ok (.iconst 1, 1) := by decide +kernel
theorem dX12_part_7 : decode cX12_part 7 = .ok (.isub, 1) := by decide +kernel
theorem dX12_part_8 : decode cX12_part 8 = .ok (.iand, 1) := by decide +kernel
theorem dX12_part_9 : decode cX12_part 9 = .ok (.ireturn, 1) := by decide +kernel
theorem dX12_isOut_0 : decode cX12_isOut 0 = .ok (.iload_n 0, 1) := by decide +kernel
theorem dX12_isOut_1 : decode cX12_isOut 1 = .ok (.ifCond .lt 10, 3) := by decide +kernel
theorem dX12_isOut_4 : decode cX12_isOut 4 = .ok (.iload_n 0, 1) := by decide +kernel
theorem dX12_isOut_5 : decode cX12_isOut 5 = .ok (.sipush 16383, 3) := by decide +kernel
theorem dX12_isOut_8 : decode cX12_isOut 8 = .ok (.if_icmp .le 7, 3) := by decide +kernel
theorem dX12_isOut_11 : decode cX12_isOut 11 = .ok (.iconst 1, 1) := by decide +kernel
theorem dX12_isOut_12 : decode cX12_isOut 12 = .ok (.goto 4, 3) := by decide +kernel
theorem dX12_isOut_15 : decode cX12_isOut 15 = .ok (.iconst 0, 1) := by decide +kernel
theorem dX12_isOut_16 : decode cX12_isOut 16 = .ok (.ireturn, 1) := by decide +kernel
theorem dX12_gives_0 : decode cX12_gives 0 = .ok (.iload_n 1, 1) := by decide +kernel
theorem dX12_gives_1 : decode cX12_gives 1 = .ok (.ifCond .le 10, 3) := by decide +kernel
theorem dX12_gives_4 : decode cX12_gives 4 = .ok (.aload_n 0, 1) := by decide +kernel
theorem dX12_gives_5 : decode cX12_gives 5 = .ok (.getfield 150, 3) := by decide +kernel
theorem dX12_gives_8 : decode cX12_gives 8 = .ok (.iload_n 1, 1) := by decide +kernel
theorem dX12_gives_9 : decode cX12_gives 9 = .ok (.iload_n 2, 1) := by decide +kernel
theorem dX12_gives_10 : decode cX12_gives 10 = .ok (.iastore, 1) := by decide +kernel
theorem dX12_gives_11 : decode cX12_gives 11 = .ok (.return_, 1) := by decide +kernel
theorem dX12_goesOn_0 : decode cX12_goesOn 0 = .ok (.aload_n 0, 1) := by decide +kernel
theorem dX12_goesOn_1 : decode cX12_goesOn 1 = .ok (.getfield 150, 3) := by decide +kernel
theorem dX12_goesOn_4 : decode cX12_goesOn 4 = .ok (.bipush 32, 2) := by decide +kernel
theorem dX12_goesOn_6 : decode cX12_goesOn 6 = .ok (.iload_n 1, 1) := by decide +kernel
theorem dX12_goesOn_7 : decode cX12_goesOn 7 = .ok (.iastore, 1) := by decide +kernel
theorem dX12_goesOn_8 : decode cX12_goesOn 8 = .ok (.aload_n 0, 1) := by decide +kernel
theorem dX12_goesOn_9 : decode cX12_goesOn 9 = .ok (.dup, 1) := by decide +kernel
theorem dX12_goesOn_10 : decode cX12_goesOn 10 = .ok (.getfield 570, 3) := by decide +kernel
theorem dX12_goesOn_13 : decode cX12_goesOn 13 = .ok (.iconst 1, 1) := by decide +kernel
theorem dX12_goesOn_14 : decode cX12_goesOn 14 = .ok (.iadd, 1) := by decide +kernel
theorem dX12_goesOn_15 : decode cX12_goesOn 15 = .ok (.putfield 570, 3) := by decide +kernel
theorem dX12_goesOn_18 : decode cX12_goesOn 18 = .ok (.iconst 0, 1) := by decide +kernel
theorem dX12_goesOn_19 : decode cX12_goesOn 19 = .ok (.ireturn, 1) := by decide +kernel
theorem dX12_oneWord_0 : decode cX12_oneWord 0 = .ok (.aload_n 0, 1) := by decide +kernel
theorem dX12_oneWord_1 : decode cX12_oneWord 1 = .ok (.getfield 150, 3) := by decide +kernel
theorem dX12_oneWord_4 : decode cX12_oneWord 4 = .ok (.bipush 32, 2) := by decide +kernel
theorem dX12_oneWord_6 : decode cX12_oneWord 6 = .ok (.iaload, 1) := by decide +kernel
theorem dX12_oneWord_7 : decode cX12_oneWord 7 = .ok (.istore_n 1, 1) := by decide +kernel
theorem dX12_oneWord_8 : decode cX12_oneWord 8 = .ok (.iload_n 1, 1) := by decide +kernel
theorem dX12_oneWord_9 : decode cX12_oneWord 9 = .ok (.iconst 3, 1) := by decide +kernel
theorem dX12_oneWord_10 : decode cX12_oneWord 10 = .ok (.iand, 1) := by decide +kernel
theorem dX12_oneWord_11 : decode cX12_oneWord 11 = .ok (.ifCond .ne 10, 3) := by decide +kernel
theorem dX12_oneWord_14 : decode cX12_oneWord 14 = .ok (.iload_n 1, 1) := by decide +kernel
theorem dX12_oneWord_15 : decode cX12_oneWord 15 = .ok (.invokestatic 576, 3) := by decide +kernel
theorem dX12_oneWord_18 : decode cX12_oneWord 18 = .ok (.ifCond .eq 5, 3) := by decide +kernel
theorem dX12_oneWord_21 : decode cX12_oneWord 21 = .ok (.iconst 1, 1) := by decide +kernel
theorem dX12_oneWord_22 : decode cX12_oneWord 22 = .ok (.ireturn, 1) := by decide +kernel
theorem dX12_oneWord_23 : decode cX12_oneWord 23 = .ok (.aload_n 0, 1) := by decide +kernel
theorem dX12_oneWord_24 : decode cX12_oneWord 24 = .ok (.getfield 147, 3) := by decide +kernel
theorem dX12_oneWord_27 : decode cX12_oneWord 27 = .ok (.iload_n 1, 1) := by decide +kernel
theorem dX12_oneWord_28 : decode cX12_oneWord 28 = .ok (.iconst 2, 1) := by decide +kernel
theorem dX12_oneWord_29 : decode cX12_oneWord 29 = .ok (.ishr, 1) := by decide +kernel
theorem dX12_oneWord_30 : decode cX12_oneWord 30 = .ok (.iaload, 1) := by decide +kernel
theorem dX12_oneWord_31 : decode cX12_oneWord 31 = .ok (.istore_n 2, 1) := by decide +kernel
theorem dX12_oneWord_32 : decode cX12_oneWord 32 = .ok (.iload_n 2, 1) := by decide +kernel
theorem dX12_oneWord_33 : decode cX12_oneWord 33 = .ok (.bipush 7, 2) := by decide +kernel
theorem dX12_oneWord_35 : decode cX12_oneWord 35 = .ok (.iconst 5, 1) := by decide +kernel
theorem dX12_oneWord_36 : decode cX12_oneWord 36 = .ok (.invokestatic 579, 3) := by decide +kernel
theorem dX12_oneWord_39 : decode cX12_oneWord 39 = .ok (.istore_n 3, 1) := by decide +kernel
theorem dX12_oneWord_40 : decode cX12_oneWord 40 = .ok (.iload_n 2, 1) := by decide +kernel
theorem dX12_oneWord_41 : decode cX12_oneWord 41 = .ok (.bipush 12, 2) := by decide +kernel
theorem dX12_oneWord_43 : decode cX12_oneWord 43 = .ok (.iconst 3, 1) := by decide +kernel
theorem dX12_oneWord_44 : decode cX12_oneWord 44 = .ok (.invokestatic 579, 3) := by decide +kernel
theorem dX12_oneWord_47 : decode cX12_oneWord 47 = .ok (.istore 4, 2) := by decide +kernel
theorem dX12_oneWord_49 : decode cX12_oneWord 49 = .ok (.iload_n 2, 1) := by decide +kernel
theorem dX12_oneWord_50 : decode cX12_oneWord 50 = .ok (.bipush 25, 2) := by decide +kernel
theorem dX12_oneWord_52 : decode cX12_oneWord 52 = .ok (.bipush 7, 2) := by decide +kernel
theorem dX12_oneWord_54 : decode cX12_oneWord 54 = .ok (.invokestatic 579, 3) := by decide +kernel
theorem dX12_oneWord_57 : decode cX12_oneWord 57 = .ok (.istore 5, 2) := by decide +kernel
theorem dX12_oneWord_59 : decode cX12_oneWord 59 = .ok (.aload_n 0, 1) := by decide +kernel
theorem dX12_oneWord_60 : decode cX12_oneWord 60 = .ok (.getfield 150, 3) := by decide +kernel
theorem dX12_oneWord_63 : decode cX12_oneWord 63 = .ok (.iload_n 2, 1) := by decide +kernel
theorem dX12_oneWord_64 : decode cX12_oneWord 64 = .ok (.bipush 15, 2) := by decide +kernel
theorem dX12_oneWord_66 : decode cX12_oneWord 66 = .ok (.iconst 5, 1) := by decide +kernel
theorem dX12_oneWord_67 : decode cX12_oneWord 67 = .ok (.invokestatic 579, 3) := by decide +kernel
theorem dX12_oneWord_70 : decode cX12_oneWord 70 = .ok (.iaload, 1) := by decide +kernel
theorem dX12_oneWord_71 : decode cX12_oneWord 71 = .ok (.istore 6, 2) := by decide +kernel
theorem dX12_oneWord_73 : decode cX12_oneWord 73 = .ok (.aload_n 0, 1) := by decide +kernel
theorem dX12_oneWord_74 : decode cX12_oneWord 74 = .ok (.getfield 150, 3) := by decide +kernel
theorem dX12_oneWord_77 : decode cX12_oneWord 77 = .ok (.iload_n 2, 1) := by decide +kernel
theorem dX12_oneWord_78 : decode cX12_oneWord 78 = .ok (.bipush 20, 2) := by decide +kernel
theorem dX12_oneWord_80 : decode cX12_oneWord 80 = .ok (.iconst 5, 1) := by decide +kernel
theorem dX12_oneWord_81 : decode cX12_oneWord 81 = .ok (.invokestatic 579, 3) := by decide +kernel
theorem dX12_oneWord_84 : decode cX12_oneWord 84 = .ok (.iaload, 1) := by decide +kernel
theorem dX12_oneWord_85 : decode cX12_oneWord 85 = .ok (.istore 7, 2) := by decide +kernel
theorem dX12_oneWord_87 : decode cX12_oneWord 87 = .ok (.iload_n 2, 1) := by decide +kernel
theorem dX12_oneWord_88 : decode cX12_oneWord 88 = .ok (.bipush 20, 2) := by decide +kernel
theorem dX12_oneWord_90 : decode cX12_oneWord 90 = .ok (.ishr, 1) := by decide +kernel
theorem dX12_oneWord_91 : decode cX12_oneWord 91 = .ok (.istore 8, 2) := by decide +kernel
theorem dX12_oneWord_93 : decode cX12_oneWord 93 = .ok (.iload_n 2, 1) := by decide +kernel
theorem dX12_oneWord_94 : decode cX12_oneWord 94 = .ok (.iconst 0, 1) := by decide +kernel
theorem dX12_oneWord_95 : decode cX12_oneWord 95 = .ok (.bipush 7, 2) := by decide +kernel
theorem dX12_oneWord_97 : decode cX12_oneWord 97 = .ok (.invokestatic 579, 3) := by decide +kernel
theorem dX12_oneWord_100 : decode cX12_oneWord 100 = .ok (.lookupswitch 346 #[(3, 257), (15, 329), (19, 292), (23, 110), (35, 271), (51, 314), (55, 92), (99, 204), (103, 180), (111, 130)], 92) := by decide +kernel
theorem dX12_oneWord_192 : decode cX12_oneWord 192 = .ok (.aload_n 0, 1) := by decide +kernel
theorem dX12_oneWord_193 : decode cX12_oneWord 193 = .ok (.iload_n 3, 1) := by decide +kernel
theorem dX12_oneWord_194 : decode cX12_oneWord 194 = .ok (.iload_n 2, 1) := by decide +kernel
theorem dX12_oneWord_195 : decode cX12_oneWord 195 = .ok (.sipush (-4096), 3) := by decide +kernel
theorem dX12_oneWord_198 : decode cX12_oneWord 198 = .ok (.iand, 1) := by decide +kernel
theorem dX12_oneWord_199 : decode cX12_oneWord 199 = .ok (.invokevirtual 582, 3) := by decide +kernel
theorem dX12_oneWord_202 : decode cX12_oneWord 202 = .ok (.aload_n 0, 1) := by decide +kernel
theorem dX12_oneWord_203 : decode cX12_oneWord 203 = .ok (.iload_n 1, 1) := by decide +kernel
theorem dX12_oneWord_204 : decode cX12_oneWord 204 = .ok (.iconst 4, 1) := by decide +kernel
theorem dX12_oneWord_205 : decode cX12_oneWord 205 = .ok (.iadd, 1) := by decide +kernel
theorem dX12_oneWord_206 : decode cX12_oneWord 206 = .ok (.invokevirtual 585, 3) := by decide +kernel
theorem dX12_oneWord_209 : decode cX12_oneWord 209 = .ok (.ireturn, 1) := by decide +kernel
theorem dX12_oneWord_210 : decode cX12_oneWord 210 = .ok (.aload_n 0, 1) := by decide +kernel
theorem dX12_oneWord_211 : decode cX12_oneWord 211 = .ok (.iload_n 3, 1) := by decide +kernel
theorem dX12_oneWord_212 : decode cX12_oneWord 212 = .ok (.iload_n 1, 1) := by decide +kernel
theorem dX12_oneWord_213 : decode cX12_oneWord 213 = .ok (.iload_n 2, 1) := by decide +kernel
theorem dX12_oneWord_214 : decode cX12_oneWord 214 = .ok (.sipush (-4096), 3) := by decide +kernel
theorem dX12_oneWord_217 : decode cX12_oneWord 217 = .ok (.iand, 1) := by decide +kernel
theorem dX12_oneWord_218 : decode cX12_oneWord 218 = .ok (.iadd, 1) := by decide +kernel
theorem dX12_oneWord_219 : decode cX12_oneWord 219 = .ok (.invokevirtual 582, 3) := by decide +kernel
theorem dX12_oneWord_222 : decode cX12_oneWord 222 = .ok (.aload_n 0, 1) := by decide +kernel
theorem dX12_oneWord_223 : decode cX12_oneWord 223 = .ok (.iload_n 1, 1) := by decide +kernel
theorem dX12_oneWord_224 : decode cX12_oneWord 224 = .ok (.iconst 4, 1) := by decide +kernel
theorem dX12_oneWord_225 : decode cX12_oneWord 225 = .ok (.iadd, 1) := by decide +kernel
theorem dX12_oneWord_226 : decode cX12_oneWord 226 = .ok (.invokevirtual 585, 3) := by decide +kernel
theorem dX12_oneWord_229 : decode cX12_oneWord 229 = .ok (.ireturn, 1) := by decide +kernel
theorem dX12_oneWord_230 : decode cX12_oneWord 230 = .ok (.aload_n 0, 1) := by decide +kernel
theorem dX12_oneWord_231 : decode cX12_oneWord 231 = .ok (.iload_n 3, 1) := by decide +kernel
theorem dX12_oneWord_232 : decode cX12_oneWord 232 = .ok (.iload_n 1, 1) := by decide +kernel
theorem dX12_oneWord_233 : decode cX12_oneWord 233 = .ok (.iload_n 2, 1) := by decide +kernel
theorem dX12_oneWord_234 : decode cX12_oneWord 234 = .ok (.bipush 31, 2) := by decide +kernel
theorem dX12_oneWord_236 : decode cX12_oneWord 236 = .ok (.ishr, 1) := by decide +kernel
theorem dX12_oneWord_237 : decode cX12_oneWord 237 = .ok (.bipush 20, 2) := by decide +kernel
theorem dX12_oneWord_239 : decode cX12_oneWord 239 = .ok (.ishl, 1) := by decide +kernel
theorem dX12_oneWord_240 : decode cX12_oneWord 240 = .ok (.iload_n 2, 1) := by decide +kernel
theorem dX12_oneWord_241 : decode cX12_oneWord 241 = .ok (.bipush 12, 2) := by decide +kernel
theorem dX12_oneWord_243 : decode cX12_oneWord 243 = .ok (.bipush 8, 2) := by decide +kernel
theorem dX12_oneWord_245 : decode cX12_oneWord 245 = .ok (.invokestatic 579, 3) := by decide +kernel
theorem dX12_oneWord_248 : decode cX12_oneWord 248 = .ok (.bipush 12, 2) := by decide +kernel
theorem dX12_oneWord_250 : decode cX12_oneWord 250 = .ok (.ishl, 1) := by decide +kernel
theorem dX12_oneWord_251 : decode cX12_oneWord 251 = .ok (.ior, 1) := by decide +kernel
theorem dX12_oneWord_252 : decode cX12_oneWord 252 = .ok (.iload_n 2, 1) := by decide +kernel
theorem dX12_oneWord_253 : decode cX12_oneWord 253 = .ok (.bipush 20, 2) := by decide +kernel
theorem dX12_oneWord_255 : decode cX12_oneWord 255 = .ok (.iconst 1, 1) := by decide +kernel
theorem dX12_oneWord_256 : decode cX12_oneWord 256 = .ok (.invokestatic 579, 3) := by decide +kernel
theorem dX12_oneWord_259 : decode cX12_oneWord 259 = .ok (.bipush 11, 2) := by decide +kernel
theorem dX12_oneWord_261 : decode cX12_oneWord 261 = .ok (.ishl, 1) := by decide +kernel
theorem dX12_oneWord_262 : decode cX12_oneWord 262 = .ok (.ior, 1) := by decide +kernel
theorem dX12_oneWord_263 : decode cX12_oneWord 263 = .ok (.iload_n 2, 1) := by decide +kernel
theorem dX12_oneWord_264 : decode cX12_oneWord 264 = .ok (.bipush 21, 2) := by decide +kernel
theorem dX12_oneWord_266 : decode cX12_oneWord 266 = .ok (.bipush 10, 2) := by decide +kernel
theorem dX12_oneWord_268 : decode cX12_oneWord 268 = .ok (.invokestatic 579, 3) := by decide +kernel
theorem dX12_oneWord_271 : decode cX12_oneWord 271 = .ok (.iconst 1, 1) := by decide +kernel
theorem dX12_oneWord_272 : decode cX12_oneWord 272 = .ok (.ishl, 1) := by decide +kernel
theorem dX12_oneWord_273 : decode cX12_oneWord 273 = .ok (.ior, 1) := by decide +kernel
theorem dX12_oneWord_274 : decode cX12_oneWord 274 = .ok (.iadd, 1) := by decide +kernel
theorem dX12_oneWord_275 : decode cX12_oneWord 275 = .ok (.iload_n 1, 1) := by decide +kernel
theorem dX12_oneWord_276 : decode cX12_oneWord 276 = .ok (.invokevirtual 588, 3) := by decide +kernel
theorem dX12_oneWord_279 : decode cX12_oneWord 279 = .ok (.ireturn, 1) := by decide +kernel
theorem dX12_oneWord_280 : decode cX12_oneWord 280 = .ok (.iload 4, 2) := by decide +kernel
theorem dX12_oneWord_282 : decode cX12_oneWord 282 = .ok (.ifCond .ne 20, 3) := by decide +kernel
theorem dX12_oneWord_285 : decode cX12_oneWord 285 = .ok (.aload_n 0, 1) := by decide +kernel
theorem dX12_oneWord_286 : decode cX12_oneWord 286 = .ok (.iload_n 3, 1) := by decide +kernel
theorem dX12_oneWord_287 : decode cX12_oneWord 287 = .ok (.iload 6, 2) := by decide +kernel
theorem dX12_oneWord_289 : decode cX12_oneWord 289 = .ok (.iload 8, 2) := by decide +kernel
theorem dX12_oneWord_291 : decode cX12_oneWord 291 = .ok (.iadd, 1) := by decide +kernel
theorem dX12_oneWord_292 : decode cX12_oneWord 292 = .ok (.bipush (-2), 2) := by decide +kernel
theorem dX12_oneWord_294 : decode cX12_oneWord 294 = .ok (.iand, 1) := by decide +kernel
theorem dX12_oneWord_295 : decode cX12_oneWord 295 = .ok (.iload_n 1, 1) := by decide +kernel
theorem dX12_oneWord_296 : decode cX12_oneWord 296 = .ok (.invokevirtual 588, 3) := by decide +kernel
theorem dX12_oneWord_299 : decode cX12_oneWord 299 = .ok (.goto 4, 3) := by decide +kernel
theorem dX12_oneWord_302 : decode cX12_oneWord 302 = .ok (.iconst 2, 1) := by decide +kernel
theorem dX12_oneWord_303 : decode cX12_oneWord 303 = .ok (.ireturn, 1) := by decide +kernel
theorem dX12_oneWord_304 : decode cX12_oneWord 304 = .ok (.aload_n 0, 1) := by decide +kernel
theorem dX12_oneWord_305 : decode cX12_oneWord 305 = .ok (.iload 4, 2) := by decide +kernel
theorem dX12_oneWord_307 : decode cX12_oneWord 307 = .ok (.iload 6, 2) := by decide +kernel
theorem dX12_oneWord_309 : decode cX12_oneWord 309 = .ok (.iload 7, 2) := by decide +kernel
theorem dX12_oneWord_311 : decode cX12_oneWord 311 = .ok (.iload_n 1, 1) := by decide +kernel
theorem dX12_oneWord_312 : decode cX12_oneWord 312 = .ok (.iload_n 2, 1) := by decide +kernel
theorem dX12_oneWord_313 : decode cX12_oneWord 313 = .ok (.bipush 31, 2) := by decide +kernel
theorem dX12_oneWord_315 : decode cX12_oneWord 315 = .ok (.ishr, 1) := by decide +kernel
theorem dX12_oneWord_316 : decode cX12_oneWord 316 = .ok (.bipush 12, 2) := by decide +kernel
theorem dX12_oneWord_318 : decode cX12_oneWord 318 = .ok (.ishl, 1) := by decide +kernel
theorem dX12_oneWord_319 : decode cX12_oneWord 319 = .ok (.iload_n 2, 1) := by decide +kernel
theorem dX12_oneWord_320 : decode cX12_oneWord 320 = .ok (.bipush 7, 2) := by decide +kernel
theorem dX12_oneWord_322 : decode cX12_oneWord 322 = .ok (.iconst 1, 1) := by decide +kernel
theorem dX12_oneWord_323 : decode cX12_oneWord 323 = .ok (.invokestatic 579, 3) := by decide +kernel
theorem dX12_oneWord_326 : decode cX12_oneWord 326 = .ok (.bipush 11, 2) := by decide +kernel
theorem dX12_oneWord_328 : decode cX12_oneWord 328 = .ok (.ishl, 1) := by decide +kernel
theorem dX12_oneWord_329 : decode cX12_oneWord 329 = .ok (.ior, 1) := by decide +kernel
theorem dX12_oneWord_330 : decode cX12_oneWord 330 = .ok (.iload_n 2, 1) := by decide +kernel
theorem dX12_oneWord_331 : decode cX12_oneWord 331 = .ok (.bipush 25, 2) := by decide +kernel
theorem dX12_oneWord_333 : decode cX12_oneWord 333 = .ok (.bipush 6, 2) := by decide +kernel
theorem dX12_oneWord_335 : decode cX12_oneWord 335 = .ok (.invokestatic 579, 3) := by decide +kernel
theorem dX12_oneWord_338 : decode cX12_oneWord 338 = .ok (.iconst 5, 1) := by decide +kernel
theorem dX12_oneWord_339 : decode cX12_oneWord 339 = .ok (.ishl, 1) := by decide +kernel
theorem dX12_oneWord_340 : decode cX12_oneWord 340 = .ok (.ior, 1) := by decide +kernel
theorem dX12_oneWord_341 : decode cX12_oneWord 341 = .ok (.iload_n 2, 1) := by decide +kernel
theorem dX12_oneWord_342 : decode cX12_oneWord 342 = .ok (.bipush 8, 2) := by decide +kernel
theorem dX12_oneWord_344 : decode cX12_oneWord 344 = .ok (.iconst 4, 1) := by decide +kernel
theorem dX12_oneWord_345 : decode cX12_oneWord 345 = .ok (.invokestatic 579, 3) := by decide +kernel
theorem dX12_oneWord_348 : decode cX12_oneWord 348 = .ok (.iconst 1, 1) := by decide +kernel
theorem dX12_oneWord_349 : decode cX12_oneWord 349 = .ok (.ishl, 1) := by decide +kernel
theorem dX12_oneWord_350 : decode cX12_oneWord 350 = .ok (.ior, 1) := by decide +kernel
theorem dX12_oneWord_351 : decode cX12_oneWord 351 = .ok (.iadd, 1) := by decide +kernel
theorem dX12_oneWord_352 : decode cX12_oneWord 352 = .ok (.iload_n 1, 1) := by decide +kernel
theorem dX12_oneWord_353 : decode cX12_oneWord 353 = .ok (.invokevirtual 591, 3) := by decide +kernel
theorem dX12_oneWord_356 : decode cX12_oneWord 356 = .ok (.ireturn, 1) := by decide +kernel
theorem dX12_oneWord_357 : decode cX12_oneWord 357 = .ok (.aload_n 0, 1) := by decide +kernel
theorem dX12_oneWord_358 : decode cX12_oneWord 358 = .ok (.iload 4, 2) := by decide +kernel
theorem dX12_oneWord_360 : decode cX12_oneWord 360 = .ok (.iload_n 3, 1) := by decide +kernel
theorem dX12_oneWord_361 : decode cX12_oneWord 361 = .ok (.iload 6, 2) := by decide +kernel
theorem dX12_oneWord_363 : decode cX12_oneWord 363 = .ok (.iload 8, 2) := by decide +kernel
theorem dX12_oneWord_365 : decode cX12_oneWord 365 = .ok (.iadd, 1) := by decide +kernel
theorem dX12_oneWord_366 : decode cX12_oneWord 366 = .ok (.iload_n 1, 1) := by decide +kernel
theorem dX12_oneWord_367 : decode cX12_oneWord 367 = .ok (.invokevirtual 595, 3) := by decide +kernel
theorem dX12_oneWord_370 : decode cX12_oneWord 370 = .ok (.ireturn, 1) := by decide +kernel
theorem dX12_oneWord_371 : decode cX12_oneWord 371 = .ok (.aload_n 0, 1) := by decide +kernel
theorem dX12_oneWord_372 : decode cX12_oneWord 372 = .ok (.iload 4, 2) := by decide +kernel
theorem dX12_oneWord_374 : decode cX12_oneWord 374 = .ok (.iload 6, 2) := by decide +kernel
theorem dX12_oneWord_376 : decode cX12_oneWord 376 = .ok (.iload_n 2, 1) := by decide +kernel
theorem dX12_oneWord_377 : decode cX12_oneWord 377 = .ok (.bipush 25, 2) := by decide +kernel
theorem dX12_oneWord_379 : decode cX12_oneWord 379 = .ok (.ishr, 1) := by decide +kernel
theorem dX12_oneWord_380 : decode cX12_oneWord 380 = .ok (.iconst 5, 1) := by decide +kernel
theorem dX12_oneWord_381 : decode cX12_oneWord 381 = .ok (.ishl, 1) := by decide +kernel
theorem dX12_oneWord_382 : decode cX12_oneWord 382 = .ok (.iload_n 3, 1) := by decide +kernel
theorem dX12_oneWord_383 : decode cX12_oneWord 383 = .ok (.ior, 1) := by decide +kernel
theorem dX12_oneWord_384 : decode cX12_oneWord 384 = .ok (.iadd, 1) := by decide +kernel
theorem dX12_oneWord_385 : decode cX12_oneWord 385 = .ok (.iload 7, 2) := by decide +kernel
theorem dX12_oneWord_387 : decode cX12_oneWord 387 = .ok (.iload_n 1, 1) := by decide +kernel
theorem dX12_oneWord_388 : decode cX12_oneWord 388 = .ok (.invokevirtual 599, 3) := by decide +kernel
theorem dX12_oneWord_391 : decode cX12_oneWord 391 = .ok (.ireturn, 1) := by decide +kernel
theorem dX12_oneWord_392 : decode cX12_oneWord 392 = .ok (.aload_n 0, 1) := by decide +kernel
theorem dX12_oneWord_393 : decode cX12_oneWord 393 = .ok (.iload 4, 2) := by decide +kernel
theorem dX12_oneWord_395 : decode cX12_oneWord 395 = .ok (.iload 5, 2) := by decide +kernel
theorem dX12_oneWord_397 : decode cX12_oneWord 397 = .ok (.iload_n 3, 1) := by decide +kernel
theorem dX12_oneWord_398 : decode cX12_oneWord 398 = .ok (.iload 6, 2) := by decide +kernel
theorem dX12_oneWord_400 : decode cX12_oneWord 400 = .ok (.iload 8, 2) := by decide +kernel
theorem dX12_oneWord_402 : decode cX12_oneWord 402 = .ok (.iload_n 2, 1) := by decide +kernel
theorem dX12_oneWord_403 : decode cX12_oneWord 403 = .ok (.bipush 20, 2) := by decide +kernel
theorem dX12_oneWord_405 : decode cX12_oneWord 405 = .ok (.iconst 5, 1) := by decide +kernel
theorem dX12_oneWord_406 : decode cX12_oneWord 406 = .ok (.invokestatic 579, 3) := by decide +kernel
theorem dX12_oneWord_409 : decode cX12_oneWord 409 = .ok (.iload_n 1, 1) := by decide +kernel
theorem dX12_oneWord_410 : decode cX12_oneWord 410 = .ok (.invokevirtual 602, 3) := by decide +kernel
theorem dX12_oneWord_413 : decode cX12_oneWord 413 = .ok (.ireturn, 1) := by decide +kernel
theorem dX12_oneWord_414 : decode cX12_oneWord 414 = .ok (.aload_n 0, 1) := by decide +kernel
theorem dX12_oneWord_415 : decode cX12_oneWord 415 = .ok (.iload 4, 2) := by decide +kernel
theorem dX12_oneWord_417 : decode cX12_oneWord 417 = .ok (.iload 5, 2) := by decide +kernel
theorem dX12_oneWord_419 : decode cX12_oneWord 419 = .ok (.iload_n 3, 1) := by decide +kernel
theorem dX12_oneWord_420 : decode cX12_oneWord 420 = .ok (.iload 6, 2) := by decide +kernel
theorem dX12_oneWord_422 : decode cX12_oneWord 422 = .ok (.iload 7, 2) := by decide +kernel
theorem dX12_oneWord_424 : decode cX12_oneWord 424 = .ok (.iload_n 1, 1) := by decide +kernel
theorem dX12_oneWord_425 : decode cX12_oneWord 425 = .ok (.invokevirtual 606, 3) := by decide +kernel
theorem dX12_oneWord_428 : decode cX12_oneWord 428 = .ok (.ireturn, 1) := by decide +kernel
theorem dX12_oneWord_429 : decode cX12_oneWord 429 = .ok (.iload 4, 2) := by decide +kernel
theorem dX12_oneWord_431 : decode cX12_oneWord 431 = .ok (.ifCond .ne 13, 3) := by decide +kernel
theorem dX12_oneWord_434 : decode cX12_oneWord 434 = .ok (.aload_n 0, 1) := by decide +kernel
theorem dX12_oneWord_435 : decode cX12_oneWord 435 = .ok (.iload_n 1, 1) := by decide +kernel
theorem dX12_oneWord_436 : decode cX12_oneWord 436 = .ok (.iconst 4, 1) := by decide +kernel
theorem dX12_oneWord_437 : decode cX12_oneWord 437 = .ok (.iadd, 1) := by decide +kernel
theorem dX12_oneWord_438 : decode cX12_oneWord 438 = .ok (.invokevirtual 585, 3) := by decide +kernel
theorem dX12_oneWord_441 : decode cX12_oneWord 441 = .ok (.goto 4, 3) := by decide +kernel
theorem dX12_oneWord_444 : decode cX12_oneWord 444 = .ok (.iconst 2, 1) := by decide +kernel
theorem dX12_oneWord_445 : decode cX12_oneWord 445 = .ok (.ireturn, 1) := by decide +kernel
theorem dX12_oneWord_446 : decode cX12_oneWord 446 = .ok (.iload_n 2, 1) := by decide +kernel
theorem dX12_oneWord_447 : decode cX12_oneWord 447 = .ok (.bipush 115, 2) := by decide +kernel
theorem dX12_oneWord_449 : decode cX12_oneWord 449 = .ok (.if_icmp .eq 12, 3) := by decide +kernel
theorem dX12_oneWord_452 : decode cX12_oneWord 452 = .ok (.iload_n 2, 1) := by decide +kernel
theorem dX12_oneWord_453 : decode cX12_oneWord 453 = .ok (.ldc_w 610, 3) := by decide +kernel
theorem dX12_oneWord_456 : decode cX12_oneWord 456 = .ok (.if_icmp .eq 5, 3) := by decide +kernel
theorem dX12_oneWord_459 : decode cX12_oneWord 459 = .ok (.iconst 2, 1) := by decide +kernel
theorem dX12_oneWord_460 : decode cX12_oneWord 460 = .ok (.ireturn, 1) := by decide +kernel
theorem dX12_oneWord_461 : decode cX12_oneWord 461 = .ok (.aload_n 0, 1) := by decide +kernel
theorem dX12_oneWord_462 : decode cX12_oneWord 462 = .ok (.iload_n 1, 1) := by decide +kernel
theorem dX12_oneWord_463 : decode cX12_oneWord 463 = .ok (.iconst 4, 1) := by decide +kernel
theorem dX12_oneWord_464 : decode cX12_oneWord 464 = .ok (.iadd, 1) := by decide +kernel
theorem dX12_oneWord_465 : decode cX12_oneWord 465 = .ok (.invokevirtual 585, 3) := by decide +kernel
theorem dX12_oneWord_468 : decode cX12_oneWord 468 = .ok (.iload_n 2, 1) := by decide +kernel
theorem dX12_oneWord_469 : decode cX12_oneWord 469 = .ok (.bipush 115, 2) := by decide +kernel
theorem dX12_oneWord_471 : decode cX12_oneWord 471 = .ok (.if_icmp .ne 8, 3) := by decide +kernel
theorem dX12_oneWord_474 : decode cX12_oneWord 474 = .ok (.bipush 6, 2) := by decide +kernel
theorem dX12_oneWord_476 : decode cX12_oneWord 476 = .ok (.goto 5, 3) := by decide +kernel
theorem dX12_oneWord_479 : decode cX12_oneWord 479 = .ok (.bipush 7, 2) := by decide +kernel
theorem dX12_oneWord_481 : decode cX12_oneWord 481 = .ok (.iadd, 1) := by decide +kernel
theorem dX12_oneWord_482 : decode cX12_oneWord 482 = .ok (.ireturn, 1) := by decide +kernel
theorem dX12_jumps_0 : decode cX12_jumps 0 = .ok (.iload_n 2, 1) := by decide +kernel
theorem dX12_jumps_1 : decode cX12_jumps 1 = .ok (.iconst 3, 1) := by decide +kernel
theorem dX12_jumps_2 : decode cX12_jumps 2 = .ok (.iand, 1) := by decide +kernel
theorem dX12_jumps_3 : decode cX12_jumps 3 = .ok (.ifCond .eq 5, 3) := by decide +kernel
theorem dX12_jumps_6 : decode cX12_jumps 6 = .ok (.iconst 3, 1) := by decide +kernel
theorem dX12_jumps_7 : decode cX12_jumps 7 = .ok (.ireturn, 1) := by decide +kernel
theorem dX12_jumps_8 : decode cX12_jumps 8 = .ok (.aload_n 0, 1) := by decide +kernel
theorem dX12_jumps_9 : decode cX12_jumps 9 = .ok (.iload_n 1, 1) := by decide +kernel
theorem dX12_jumps_10 : decode cX12_jumps 10 = .ok (.iload_n 3, 1) := by decide +kernel
theorem dX12_jumps_11 : decode cX12_jumps 11 = .ok (.iconst 4, 1) := by decide +kernel
theorem dX12_jumps_12 : decode cX12_jumps 12 = .ok (.iadd, 1) := by decide +kernel
theorem dX12_jumps_13 : decode cX12_jumps 13 = .ok (.invokevirtual 582, 3) := by decide +kernel
theorem dX12_jumps_16 : decode cX12_jumps 16 = .ok (.aload_n 0, 1) := by decide +kernel
theorem dX12_jumps_17 : decode cX12_jumps 17 = .ok (.iload_n 2, 1) := by decide +kernel
theorem dX12_jumps_18 : decode cX12_jumps 18 = .ok (.invokevirtual 585, 3) := by decide +kernel
theorem dX12_jumps_21 : decode cX12_jumps 21 = .ok (.ireturn, 1) := by decide +kernel
theorem dX12_branches_0 : decode cX12_branches 0 = .ok (.iload_n 1, 1) := by decide +kernel
theorem dX12_branches_1 : decode cX12_branches 1 = .ok (.iconst 2, 1) := by decide +kernel
theorem dX12_branches_2 : decode cX12_branches 2 = .ok (.if_icmp .eq 8, 3) := by decide +kernel
theorem dX12_branches_5 : decode cX12_branches 5 = .ok (.iload_n 1, 1) := by decide +kernel
theorem dX12_branches_6 : decode cX12_branches 6 = .ok (.iconst 3, 1) := by decide +kernel
theorem dX12_branches_7 : decode cX12_branches 7 = .ok (.if_icmp .ne 5, 3) := by decide +kernel
theorem dX12_branches_10 : decode cX12_branches 10 = .ok (.iconst 2, 1) := by decide +kernel
theorem dX12_branches_11 : decode cX12_branches 11 = .ok (.ireturn, 1) := by decide +kernel
theorem dX12_branches_12 : decode cX12_branches 12 = .ok (.iload_n 2, 1) := by decide +kernel
theorem dX12_branches_13 : decode cX12_branches 13 = .ok (.ldc_w 490, 3) := by decide +kernel
theorem dX12_branches_16 : decode cX12_branches 16 = .ok (.iadd, 1) := by decide +kernel
theorem dX12_branches_17 : decode cX12_branches 17 = .ok (.istore 6, 2) := by decide +kernel
theorem dX12_branches_19 : decode cX12_branches 19 = .ok (.iload_n 3, 1) := by decide +kernel
theorem dX12_branches_20 : decode cX12_branches 20 = .ok (.ldc_w 490, 3) := by decide +kernel
theorem dX12_branches_23 : decode cX12_branches 23 = .ok (.iadd, 1) := by decide +kernel
theorem dX12_branches_24 : decode cX12_branches 24 = .ok (.istore 7, 2) := by decide +kernel
theorem dX12_branches_26 : decode cX12_branches 26 = .ok (.iload_n 1, 1) := by decide +kernel
theorem dX12_branches_27 : decode cX12_branches 27 = .ok (.iconst 2, 1) := by decide +kernel
theorem dX12_branches_28 : decode cX12_branches 28 = .ok (.if_icmp .ge 16, 3) := by decide +kernel
theorem dX12_branches_31 : decode cX12_branches 31 = .ok (.iload_n 2, 1) := by decide +kernel
theorem dX12_branches_32 : decode cX12_branches 32 = .ok (.iload_n 3, 1) := by decide +kernel
theorem dX12_branches_33 : decode cX12_branches 33 = .ok (.if_icmp .ne 7, 3) := by decide +kernel
theorem dX12_branches_36 : decode cX12_branches 36 = .ok (.iconst 1, 1) := by decide +kernel
theorem dX12_branches_37 : decode cX12_branches 37 = .ok (.goto 38, 3) := by decide +kernel
theorem dX12_branches_40 : decode cX12_branches 40 = .ok (.iconst 0, 1) := by decide +kernel
theorem dX12_branches_41 : decode cX12_branches 41 = .ok (.goto 34, 3) := by decide +kernel
theorem dX12_branches_44 : decode cX12_branches 44 = .ok (.iload_n 1, 1) := by decide +kernel
theorem dX12_branches_45 : decode cX12_branches 45 = .ok (.bipush 6, 2) := by decide +kernel
theorem dX12_branches_47 : decode cX12_branches 47 = .ok (.if_icmp .ge 16, 3) := by decide +kernel
theorem dX12_branches_50 : decode cX12_branches 50 = .ok (.iload_n 2, 1) := by decide +kernel
theorem dX12_branches_51 : decode cX12_branches 51 = .ok (.iload_n 3, 1) := by decide +kernel
theorem dX12_branches_52 : decode cX12_branches 52 = .ok (.if_icmp .ge 7, 3) := by decide +kernel
theorem dX12_branches_55 : decode cX12_branches 55 = .ok (.iconst 1, 1) := by decide +kernel
theorem dX12_branches_56 : decode cX12_branches 56 = .ok (.goto 19, 3) := by decide +kernel
theorem dX12_branches_59 : decode cX12_branches 59 = .ok (.iconst 0, 1) := by decide +kernel
theorem dX12_branches_60 : decode cX12_branches 60 = .ok (.goto 15, 3) := by decide +kernel
theorem dX12_branches_63 : decode cX12_branches 63 = .ok (.iload 6, 2) := by decide +kernel
theorem dX12_branches_65 : decode cX12_branches 65 = .ok (.iload 7, 2) := by decide +kernel
theorem dX12_branches_67 : decode cX12_branches 67 = .ok (.if_icmp .ge 7, 3) := by decide +kernel
theorem dX12_branches_70 : decode cX12_branches 70 = .ok (.iconst 1, 1) := by decide +kernel
theorem dX12_branches_71 : decode cX12_branches 71 = .ok (.goto 4, 3) := by decide +kernel
theorem dX12_branches_74 : decode cX12_branches 74 = .ok (.iconst 0, 1) := by decide +kernel
theorem dX12_branches_75 : decode cX12_branches 75 = .ok (.istore 8, 2) := by decide +kernel
theorem dX12_branches_77 : decode cX12_branches 77 = .ok (.iload_n 1, 1) := by decide +kernel
theorem dX12_branches_78 : decode cX12_branches 78 = .ok (.iconst 1, 1) := by decide +kernel
theorem dX12_branches_79 : decode cX12_branches 79 = .ok (.iand, 1) := by decide +kernel
theorem dX12_branches_80 : decode cX12_branches 80 = .ok (.ifCond .ne 8, 3) := by decide +kernel
theorem dX12_branches_83 : decode cX12_branches 83 = .ok (.iload 8, 2) := by decide +kernel
theorem dX12_branches_85 : decode cX12_branches 85 = .ok (.goto 13, 3) := by decide +kernel
theorem dX12_branches_88 : decode cX12_branches 88 = .ok (.iload 8, 2) := by decide +kernel
theorem dX12_branches_90 : decode cX12_branches 90 = .ok (.ifCond .ne 7, 3) := by decide +kernel
theorem dX12_branches_93 : decode cX12_branches 93 = .ok (.iconst 1, 1) := by decide +kernel
theorem dX12_branches_94 : decode cX12_branches 94 = .ok (.goto 4, 3) := by decide +kernel
theorem dX12_branches_97 : decode cX12_branches 97 = .ok (.iconst 0, 1) := by decide +kernel
theorem dX12_branches_98 : decode cX12_branches 98 = .ok (.istore 9, 2) := by decide +kernel
theorem dX12_branches_100 : decode cX12_branches 100 = .ok (.iload 9, 2) := by decide +kernel
theorem dX12_branches_102 : decode cX12_branches 102 = .ok (.ifCond .ne 12, 3) := by decide +kernel
theorem dX12_branches_105 : decode cX12_branches 105 = .ok (.aload_n 0, 1) := by decide +kernel
theorem dX12_branches_106 : decode cX12_branches 106 = .ok (.iload 5, 2) := by decide +kernel
theorem dX12_branches_108 : decode cX12_branches 108 = .ok (.iconst 4, 1) := by decide +kernel
theorem dX12_branches_109 : decode cX12_branches 109 = .ok (.iadd, 1) := by decide +kernel
theorem dX12_branches_110 : decode cX12_branches 110 = .ok (.invokevirtual 585, 3) := by decide +kernel
theorem dX12_branches_113 : decode cX12_branches 113 = .ok (.ireturn, 1) := by decide +kernel
theorem dX12_branches_114 : decode cX12_branches 114 = .ok (.iload 4, 2) := by decide +kernel
theorem dX12_branches_116 : decode cX12_branches 116 = .ok (.iconst 3, 1) := by decide +kernel
theorem dX12_branches_117 : decode cX12_branches 117 = .ok (.iand, 1) := by decide +kernel
theorem dX12_branches_118 : decode cX12_branches 118 = .ok (.ifCond .eq 7, 3) := by decide +kernel
theorem dX12_branches_121 : decode cX12_branches 121 = .ok (.iconst 3, 1) := by decide +kernel
theorem dX12_branches_122 : decode cX12_branches 122 = .ok (.goto 9, 3) := by decide +kernel
theorem dX12_branches_125 : decode cX12_branches 125 = .ok (.aload_n 0, 1) := by decide +kernel
theorem dX12_branches_126 : decode cX12_branches 126 = .ok (.iload 4, 2) := by decide +kernel
theorem dX12_branches_128 : decode cX12_branches 128 = .ok (.invokevirtual 585, 3) := by decide +kernel
theorem dX12_branches_131 : decode cX12_branches 131 = .ok (.ireturn, 1) := by decide +kernel
theorem dX12_byteAt_0 : decode cX12_byteAt 0 = .ok (.aload_n 0, 1) := by decide +kernel
theorem dX12_byteAt_1 : decode cX12_byteAt 1 = .ok (.getfield 147, 3) := by decide +kernel
theorem dX12_byteAt_4 : decode cX12_byteAt 4 = .ok (.iload_n 1, 1) := by decide +kernel
theorem dX12_byteAt_5 : decode cX12_byteAt 5 = .ok (.iconst 2, 1) := by decide +kernel
theorem dX12_byteAt_6 : decode cX12_byteAt 6 = .ok (.ishr, 1) := by decide +kernel
theorem dX12_byteAt_7 : decode cX12_byteAt 7 = .ok (.iaload, 1) := by decide +kernel
theorem dX12_byteAt_8 : decode cX12_byteAt 8 = .ok (.bipush 8, 2) := by decide +kernel
theorem dX12_byteAt_10 : decode cX12_byteAt 10 = .ok (.iload_n 1, 1) := by decide +kernel
theorem dX12_byteAt_11 : decode cX12_byteAt 11 = .ok (.iconst 3, 1) := by decide +kernel
theorem dX12_byteAt_12 : decode cX12_byteAt 12 = .ok (.iand, 1) := by decide +kernel
theorem dX12_byteAt_13 : decode cX12_byteAt 13 = .ok (.imul, 1) := by decide +kernel
theorem dX12_byteAt_14 : decode cX12_byteAt 14 = .ok (.iushr, 1) := by decide +kernel
theorem dX12_byteAt_15 : decode cX12_byteAt 15 = .ok (.sipush 255, 3) := by decide +kernel
theorem dX12_byteAt_18 : decode cX12_byteAt 18 = .ok (.iand, 1) := by decide +kernel
theorem dX12_byteAt_19 : decode cX12_byteAt 19 = .ok (.ireturn, 1) := by decide +kernel
theorem dX12_putByte_0 : decode cX12_putByte 0 = .ok (.bipush 8, 2) := by decide +kernel
theorem dX12_putByte_2 : decode cX12_putByte 2 = .ok (.iload_n 1, 1) := by decide +kernel
theorem dX12_putByte_3 : decode cX12_putByte 3 = .ok (.iconst 3, 1) := by decide +kernel
theorem dX12_putByte_4 : decode cX12_putByte 4 = .ok (.iand, 1) := by decide +kernel
theorem dX12_putByte_5 : decode cX12_putByte 5 = .ok (.imul, 1) := by decide +kernel
theorem dX12_putByte_6 : decode cX12_putByte 6 = .ok (.istore_n 3, 1) := by decide +kernel
theorem dX12_putByte_7 : decode cX12_putByte 7 = .ok (.aload_n 0, 1) := by decide +kernel
theorem dX12_putByte_8 : decode cX12_putByte 8 = .ok (.getfield 147, 3) := by decide +kernel
theorem dX12_putByte_11 : decode cX12_putByte 11 = .ok (.iload_n 1, 1) := by decide +kernel
theorem dX12_putByte_12 : decode cX12_putByte 12 = .ok (.iconst 2, 1) := by decide +kernel
theorem dX12_putByte_13 : decode cX12_putByte 13 = .ok (.ishr, 1) := by decide +kernel
theorem dX12_putByte_14 : decode cX12_putByte 14 = .ok (.aload_n 0, 1) := by decide +kernel
theorem dX12_putByte_15 : decode cX12_putByte 15 = .ok (.getfield 147, 3) := by decide +kernel
theorem dX12_putByte_18 : decode cX12_putByte 18 = .ok (.iload_n 1, 1) := by decide +kernel
theorem dX12_putByte_19 : decode cX12_putByte 19 = .ok (.iconst 2, 1) := by decide +kernel
theorem dX12_putByte_20 : decode cX12_putByte 20 = .ok (.ishr, 1) := by decide +kernel
theorem dX12_putByte_21 : decode cX12_putByte 21 = .ok (.iaload, 1) := by decide +kernel
theorem dX12_putByte_22 : decode cX12_putByte 22 = .ok (.sipush 255, 3) := by decide +kernel
theorem dX12_putByte_25 : decode cX12_putByte 25 = .ok (.iload_n 3, 1) := by decide +kernel
theorem dX12_putByte_26 : decode cX12_putByte 26 = .ok (.ishl, 1) := by decide +kernel
theorem dX12_putByte_27 : decode cX12_putByte 27 = .ok (.iconst (-1), 1) := by decide +kernel
theorem dX12_putByte_28 : decode cX12_putByte 28 = .ok (.ixor, 1) := by decide +kernel
theorem dX12_putByte_29 : decode cX12_putByte 29 = .ok (.iand, 1) := by decide +kernel
theorem dX12_putByte_30 : decode cX12_putByte 30 = .ok (.iload_n 2, 1) := by decide +kernel
theorem dX12_putByte_31 : decode cX12_putByte 31 = .ok (.sipush 255, 3) := by decide +kernel
theorem dX12_putByte_34 : decode cX12_putByte 34 = .ok (.iand, 1) := by decide +kernel
theorem dX12_putByte_35 : decode cX12_putByte 35 = .ok (.iload_n 3, 1) := by decide +kernel
theorem dX12_putByte_36 : decode cX12_putByte 36 = .ok (.ishl, 1) := by decide +kernel
theorem dX12_putByte_37 : decode cX12_putByte 37 = .ok (.ior, 1) := by decide +kernel
theorem dX12_putByte_38 : decode cX12_putByte 38 = .ok (.iastore, 1) := by decide +kernel
theorem dX12_putByte_39 : decode cX12_putByte 39 = .ok (.return_, 1) := by decide +kernel
theorem dX12_loads_0 : decode cX12_loads 0 = .ok (.iload_n 1, 1) := by decide +kernel
theorem dX12_loads_1 : decode cX12_loads 1 = .ok (.iconst 3, 1) := by decide +kernel
theorem dX12_loads_2 : decode cX12_loads 2 = .ok (.if_icmp .eq 8, 3) := by decide +kernel
theorem dX12_loads_5 : decode cX12_loads 5 = .ok (.iload_n 1, 1) := by decide +kernel
theorem dX12_loads_6 : decode cX12_loads 6 = .ok (.iconst 5, 1) := by decide +kernel
theorem dX12_loads_7 : decode cX12_loads 7 = .ok (.if_icmp .le 5, 3) := by decide +kernel
theorem dX12_loads_10 : decode cX12_loads 10 = .ok (.iconst 2, 1) := by decide +kernel
theorem dX12_loads_11 : decode cX12_loads 11 = .ok (.ireturn, 1) := by decide +kernel
theorem dX12_loads_12 : decode cX12_loads 12 = .ok (.iload_n 1, 1) := by decide +kernel
theorem dX12_loads_13 : decode cX12_loads 13 = .ok (.iconst 2, 1) := by decide +kernel
theorem dX12_loads_14 : decode cX12_loads 14 = .ok (.if_icmp .ne 7, 3) := by decide +kernel
theorem dX12_loads_17 : decode cX12_loads 17 = .ok (.iconst 4, 1) := by decide +kernel
theorem dX12_loads_18 : decode cX12_loads 18 = .ok (.goto 15, 3) := by decide +kernel
theorem dX12_loads_21 : decode cX12_loads 21 = .ok (.iload_n 1, 1) := by decide +kernel
theorem dX12_loads_22 : decode cX12_loads 22 = .ok (.iconst 3, 1) := by decide +kernel
theorem dX12_loads_23 : decode cX12_loads 23 = .ok (.iand, 1) := by decide +kernel
theorem dX12_loads_24 : decode cX12_loads 24 = .ok (.iconst 1, 1) := by decide +kernel
theorem dX12_loads_25 : decode cX12_loads 25 = .ok (.if_icmp .ne 7, 3) := by decide +kernel
theorem dX12_loads_28 : decode cX12_loads 28 = .ok (.iconst 2, 1) := by decide +kernel
theorem dX12_loads_29 : decode cX12_loads 29 = .ok (.goto 4, 3) := by decide +kernel
theorem dX12_loads_32 : decode cX12_loads 32 = .ok (.iconst 1, 1) := by decide +kernel
theorem dX12_loads_33 : decode cX12_loads 33 = .ok (.istore 5, 2) := by decide +kernel
theorem dX12_loads_35 : decode cX12_loads 35 = .ok (.iload_n 3, 1) := by decide +kernel
theorem dX12_loads_36 : decode cX12_loads 36 = .ok (.iload 5, 2) := by decide +kernel
theorem dX12_loads_38 : decode cX12_loads 38 = .ok (.iconst 1, 1) := by decide +kernel
theorem dX12_loads_39 : decode cX12_loads 39 = .ok (.isub, 1) := by decide +kernel
theorem dX12_loads_40 : decode cX12_loads 40 = .ok (.iand, 1) := by decide +kernel
theorem dX12_loads_41 : decode cX12_loads 41 = .ok (.ifCond .eq 5, 3) := by decide +kernel
theorem dX12_loads_44 : decode cX12_loads 44 = .ok (.iconst 4, 1) := by decide +kernel
theorem dX12_loads_45 : decode cX12_loads 45 = .ok (.ireturn, 1) := by decide +kernel
theorem dX12_loads_46 : decode cX12_loads 46 = .ok (.iload_n 3, 1) := by decide +kernel
theorem dX12_loads_47 : decode cX12_loads 47 = .ok (.invokestatic 576, 3) := by decide +kernel
theorem dX12_loads_50 : decode cX12_loads 50 = .ok (.ifCond .eq 5, 3) := by decide +kernel
theorem dX12_loads_53 : decode cX12_loads 53 = .ok (.iconst 5, 1) := by decide +kernel
theorem dX12_loads_54 : decode cX12_loads 54 = .ok (.ireturn, 1) := by decide +kernel
theorem dX12_loads_55 : decode cX12_loads 55 = .ok (.iconst 0, 1) := by decide +kernel
theorem dX12_loads_56 : decode cX12_loads 56 = .ok (.istore 6, 2) := by decide +kernel
theorem dX12_loads_58 : decode cX12_loads 58 = .ok (.iload 5, 2) := by decide +kernel
theorem dX12_loads_60 : decode cX12_loads 60 = .ok (.iconst 1, 1) := by decide +kernel
theorem dX12_loads_61 : decode cX12_loads 61 = .ok (.isub, 1) := by decide +kernel
theorem dX12_loads_62 : decode cX12_loads 62 = .ok (.istore 7, 2) := by decide +kernel
theorem dX12_loads_64 : decode cX12_loads 64 = .ok (.iload 7, 2) := by decide +kernel
theorem dX12_loads_66 : decode cX12_loads 66 = .ok (.ifCond .lt 25, 3) := by decide +kernel
theorem dX12_loads_69 : decode cX12_loads 69 = .ok (.iload 6, 2) := by decide +kernel
theorem dX12_loads_71 : decode cX12_loads 71 = .ok (.bipush 8, 2) := by decide +kernel
theorem dX12_loads_73 : decode cX12_loads 73 = .ok (.ishl, 1) := by decide +kernel
theorem dX12_loads_74 : decode cX12_loads 74 = .ok (.aload_n 0, 1) := by decide +kernel
theorem dX12_loads_75 : decode cX12_loads 75 = .ok (.iload_n 3, 1) := by decide +kernel
theorem dX12_loads_76 : decode cX12_loads 76 = .ok (.iload 7, 2) := by decide +kernel
theorem dX12_loads_78 : decode cX12_loads 78 = .ok (.iadd, 1) := by decide +kernel
theorem dX12_loads_79 : decode cX12_loads 79 = .ok (.invokevirtual 611, 3) := by decide +kernel
theorem dX12_loads_82 : decode cX12_loads 82 = .ok (.ior, 1) := by decide +kernel
theorem dX12_loads_83 : decode cX12_loads 83 = .ok (.istore 6, 2) := by decide +kernel
theorem dX12_loads_85 : decode cX12_loads 85 = .ok (.iinc 7 (-1), 3) := by decide +kernel
theorem dX12_loads_88 : decode cX12_loads 88 = .ok (.goto (-24), 3) := by decide +kernel
theorem dX12_loads_91 : decode cX12_loads 91 = .ok (.aload_n 0, 1) := by decide +kernel
theorem dX12_loads_92 : decode cX12_loads 92 = .ok (.iload_n 2, 1) := by decide +kernel
theorem dX12_loads_93 : decode cX12_loads 93 = .ok (.iload_n 1, 1) := by decide +kernel
theorem dX12_loads_94 : decode cX12_loads 94 = .ok (.ifCond .ne 9, 3) := by decide +kernel
theorem dX12_loads_97 : decode cX12_loads 97 = .ok (.iload 6, 2) := by decide +kernel
theorem dX12_loads_99 : decode cX12_loads 99 = .ok (.i2b, 1) := by decide +kernel
theorem dX12_loads_100 : decode cX12_loads 100 = .ok (.goto 16, 3) := by decide +kernel
theorem dX12_loads_103 : decode cX12_loads 103 = .ok (.iload_n 1, 1) := by decide +kernel
theorem dX12_loads_104 : decode cX12_loads 104 = .ok (.iconst 1, 1) := by decide +kernel
theorem dX12_loads_105 : decode cX12_loads 105 = .ok (.if_icmp .ne 9, 3) := by decide +kernel
theorem dX12_loads_108 : decode cX12_loads 108 = .ok (.iload 6, 2) := by decide +kernel
theorem dX12_loads_110 : decode cX12_loads 110 = .ok (.i2s, 1) := by decide +kernel
theorem dX12_loads_111 : decode cX12_loads 111 = .ok (.goto 5, 3) := by decide +kernel
theorem dX12_loads_114 : decode cX12_loads 114 = .ok (.iload 6, 2) := by decide +kernel
theorem dX12_loads_116 : decode cX12_loads 116 = .ok (.invokevirtual 582, 3) := by decide +kernel
theorem dX12_loads_119 : decode cX12_loads 119 = .ok (.aload_n 0, 1) := by decide +kernel
theorem dX12_loads_120 : decode cX12_loads 120 = .ok (.iload 4, 2) := by decide +kernel
theorem dX12_loads_122 : decode cX12_loads 122 = .ok (.iconst 4, 1) := by decide +kernel
theorem dX12_loads_123 : decode cX12_loads 123 = .ok (.iadd, 1) := by decide +kernel
theorem dX12_loads_124 : decode cX12_loads 124 = .ok (.invokevirtual 585, 3) := by decide +kernel
theorem dX12_loads_127 : decode cX12_loads 127 = .ok (.ireturn, 1) := by decide +kernel
theorem dX12_stores_0 : decode cX12_stores 0 = .ok (.iload_n 1, 1) := by decide +kernel
theorem dX12_stores_1 : decode cX12_stores 1 = .ok (.iconst 2, 1) := by decide +kernel
theorem dX12_stores_2 : decode cX12_stores 2 = .ok (.if_icmp .le 5, 3) := by decide +kernel
theorem dX12_stores_5 : decode cX12_stores 5 = .ok (.iconst 2, 1) := by decide +kernel
theorem dX12_stores_6 : decode cX12_stores 6 = .ok (.ireturn, 1) := by decide +kernel
theorem dX12_stores_7 : decode cX12_stores 7 = .ok (.iconst 1, 1) := by decide +kernel
theorem dX12_stores_8 : decode cX12_stores 8 = .ok (.iload_n 1, 1) := by decide +kernel
theorem dX12_stores_9 : decode cX12_stores 9 = .ok (.ishl, 1) := by decide +kernel
theorem dX12_stores_10 : decode cX12_stores 10 = .ok (.istore 5, 2) := by decide +kernel
theorem dX12_stores_12 : decode cX12_stores 12 = .ok (.iload_n 2, 1) := by decide +kernel
theorem dX12_stores_13 : decode cX12_stores 13 = .ok (.iload 5, 2) := by decide +kernel
theorem dX12_stores_15 : decode cX12_stores 15 = .ok (.iconst 1, 1) := by decide +kernel
theorem dX12_stores_16 : decode cX12_stores 16 = .ok (.isub, 1) := by decide +kernel
theorem dX12_stores_17 : decode cX12_stores 17 = .ok (.iand, 1) := by decide +kernel
theorem dX12_stores_18 : decode cX12_stores 18 = .ok (.ifCond .eq 5, 3) := by decide +kernel
theorem dX12_stores_21 : decode cX12_stores 21 = .ok (.iconst 4, 1) := by decide +kernel
theorem dX12_stores_22 : decode cX12_stores 22 = .ok (.ireturn, 1) := by decide +kernel
theorem dX12_stores_23 : decode cX12_stores 23 = .ok (.iload_n 2, 1) := by decide +kernel
theorem dX12_stores_24 : decode cX12_stores 24 = .ok (.invokestatic 576, 3) := by decide +kernel
theorem dX12_stores_27 : decode cX12_stores 27 = .ok (.ifCond .eq 5, 3) := by decide +kernel
theorem dX12_stores_30 : decode cX12_stores 30 = .ok (.iconst 5, 1) := by decide +kernel
theorem dX12_stores_31 : decode cX12_stores 31 = .ok (.ireturn, 1) := by decide +kernel
theorem dX12_stores_32 : decode cX12_stores 32 = .ok (.iconst 0, 1) := by decide +kernel
theorem dX12_stores_33 : decode cX12_stores 33 = .ok (.istore 6, 2) := by decide +kernel
theorem dX12_stores_35 : decode cX12_stores 35 = .ok (.iload 6, 2) := by decide +kernel
theorem dX12_stores_37 : decode cX12_stores 37 = .ok (.iload 5, 2) := by decide +kernel
theorem dX12_stores_39 : decode cX12_stores 39 = .ok (.if_icmp .ge 24, 3) := by decide +kernel
theorem dX12_stores_42 : decode cX12_stores 42 = .ok (.aload_n 0, 1) := by decide +kernel
theorem dX12_stores_43 : decode cX12_stores 43 = .ok (.iload_n 2, 1) := by decide +kernel
theorem dX12_stores_44 : decode cX12_stores 44 = .ok (.iload 6, 2) := by decide +kernel
theorem dX12_stores_46 : decode cX12_stores 46 = .ok (.iadd, 1) := by decide +kernel
theorem dX12_stores_47 : decode cX12_stores 47 = .ok (.iload_n 3, 1) := by decide +kernel
theorem dX12_stores_48 : decode cX12_stores 48 = .ok (.bipush 8, 2) := by decide +kernel
theorem dX12_stores_50 : decode cX12_stores 50 = .ok (.iload 6, 2) := by decide +kernel
theorem dX12_stores_52 : decode cX12_stores 52 = .ok (.imul, 1) := by decide +kernel
theorem dX12_stores_53 : decode cX12_stores 53 = .ok (.ishr, 1) := by decide +kernel
theorem dX12_stores_54 : decode cX12_stores 54 = .ok (.invokevirtual 614, 3) := by decide +kernel
theorem dX12_stores_57 : decode cX12_stores 57 = .ok (.iinc 6 1, 3) := by decide +kernel
theorem dX12_stores_60 : decode cX12_stores 60 = .ok (.goto (-25), 3) := by decide +kernel
theorem dX12_stores_63 : decode cX12_stores 63 = .ok (.aload_n 0, 1) := by decide +kernel
theorem dX12_stores_64 : decode cX12_stores 64 = .ok (.iload 4, 2) := by decide +kernel
theorem dX12_stores_66 : decode cX12_stores 66 = .ok (.iconst 4, 1) := by decide +kernel
theorem dX12_stores_67 : decode cX12_stores 67 = .ok (.iadd, 1) := by decide +kernel
theorem dX12_stores_68 : decode cX12_stores 68 = .ok (.invokevirtual 585, 3) := by decide +kernel
theorem dX12_stores_71 : decode cX12_stores 71 = .ok (.ireturn, 1) := by decide +kernel
theorem dX12_immediate_0 : decode cX12_immediate 0 = .ok (.iload_n 1, 1) := by decide +kernel
theorem dX12_immediate_1 : decode cX12_immediate 1 = .ok (.iconst 1, 1) := by decide +kernel
theorem dX12_immediate_2 : decode cX12_immediate 2 = .ok (.if_icmp .ne 7, 3) := by decide +kernel
theorem dX12_immediate_5 : decode cX12_immediate 5 = .ok (.iload_n 2, 1) := by decide +kernel
theorem dX12_immediate_6 : decode cX12_immediate 6 = .ok (.ifCond .ne 18, 3) := by decide +kernel
theorem dX12_immediate_9 : decode cX12_immediate 9 = .ok (.iload_n 1, 1) := by decide +kernel
theorem dX12_immediate_10 : decode cX12_immediate 10 = .ok (.iconst 5, 1) := by decide +kernel
theorem dX12_immediate_11 : decode cX12_immediate 11 = .ok (.if_icmp .ne 15, 3) := by decide +kernel
theorem dX12_immediate_14 : decode cX12_immediate 14 = .ok (.iload_n 2, 1) := by decide +kernel
theorem dX12_immediate_15 : decode cX12_immediate 15 = .ok (.ifCond .eq 11, 3) := by decide +kernel
theorem dX12_immediate_18 : decode cX12_immediate 18 = .ok (.iload_n 2, 1) := by decide +kernel
theorem dX12_immediate_19 : decode cX12_immediate 19 = .ok (.bipush 32, 2) := by decide +kernel
theorem dX12_immediate_21 : decode cX12_immediate 21 = .ok (.if_icmp .eq 5, 3) := by decide +kernel
theorem dX12_immediate_24 : decode cX12_immediate 24 = .ok (.iconst 2, 1) := by decide +kernel
theorem dX12_immediate_25 : decode cX12_immediate 25 = .ok (.ireturn, 1) := by decide +kernel
theorem dX12_immediate_26 : decode cX12_immediate 26 = .ok (.iload_n 1, 1) := by decide +kernel
theorem dX12_immediate_27 : decode cX12_immediate 27 = .ok (.tableswitch 145 0 6 #[41, 51, 61, 78, 103, 113, 135], 41) := by decide +kernel
theorem dX12_immediate_68 : decode cX12_immediate 68 = .ok (.iload 4, 2) := by decide +kernel
theorem dX12_immediate_70 : decode cX12_immediate 70 = .ok (.iload 5, 2) := by decide +kernel
theorem dX12_immediate_72 : decode cX12_immediate 72 = .ok (.iadd, 1) := by decide +kernel
theorem dX12_immediate_73 : decode cX12_immediate 73 = .ok (.istore 8, 2) := by decide +kernel
theorem dX12_immediate_75 : decode cX12_immediate 75 = .ok (.goto 104, 3) := by decide +kernel
theorem dX12_immediate_78 : decode cX12_immediate 78 = .ok (.iload 4, 2) := by decide +kernel
theorem dX12_immediate_80 : decode cX12_immediate 80 = .ok (.iload 6, 2) := by decide +kernel
theorem dX12_immediate_82 : decode cX12_immediate 82 = .ok (.ishl, 1) := by decide +kernel
theorem dX12_immediate_83 : decode cX12_immediate 83 = .ok (.istore 8, 2) := by decide +kernel
theorem dX12_immediate_85 : decode cX12_immediate 85 = .ok (.goto 94, 3) := by decide +kernel
theorem dX12_immediate_88 : decode cX12_immediate 88 = .ok (.iload 4, 2) := by decide +kernel
theorem dX12_immediate_90 : decode cX12_immediate 90 = .ok (.iload 5, 2) := by decide +kernel
theorem dX12_immediate_92 : decode cX12_immediate 92 = .ok (.if_icmp .ge 7, 3) := by decide +kernel
theorem dX12_immediate_95 : decode cX12_immediate 95 = .ok (.iconst 1, 1) := by decide +kernel
theorem dX12_immediate_96 : decode cX12_immediate 96 = .ok (.goto 4, 3) := by decide +kernel
theorem dX12_immediate_99 : decode cX12_immediate 99 = .ok (.iconst 0, 1) := by decide +kernel
theorem dX12_immediate_100 : decode cX12_immediate 100 = .ok (.istore 8, 2) := by decide +kernel
theorem dX12_immediate_102 : decode cX12_immediate 102 = .ok (.goto 77, 3) := by decide +kernel
theorem dX12_immediate_105 : decode cX12_immediate 105 = .ok (.iload 4, 2) := by decide +kernel
theorem dX12_immediate_107 : decode cX12_immediate 107 = .ok (.ldc_w 490, 3) := by decide +kernel
theorem dX12_immediate_110 : decode cX12_immediate 110 = .ok (.iadd, 1) := by decide +kernel
theorem dX12_immediate_111 : decode cX12_immediate 111 = .ok (.iload 5, 2) := by decide +kernel
theorem dX12_immediate_113 : decode cX12_immediate 113 = .ok (.ldc_w 490, 3) := by decide +kernel
theorem dX12_immediate_116 : decode cX12_immediate 116 = .ok (.iadd, 1) := by decide +kernel
theorem dX12_immediate_117 : decode cX12_immediate 117 = .ok (.if_icmp .ge 7, 3) := by decide +kernel
theorem dX12_immediate_120 : decode cX12_immediate 120 = .ok (.iconst 1, 1) := by decide +kernel
theorem dX12_immediate_121 : decode cX12_immediate 121 = .ok (.goto 4, 3) := by decide +kernel
theorem dX12_immediate_124 : decode cX12_immediate 124 = .ok (.iconst 0, 1) := by decide +kernel
theorem dX12_immediate_125 : decode cX12_immediate 125 = .ok (.istore 8, 2) := by decide +kernel
theorem dX12_immediate_127 : decode cX12_immediate 127 = .ok (.goto 52, 3) := by decide +kernel
theorem dX12_immediate_130 : decode cX12_immediate 130 = .ok (.iload 4, 2) := by decide +kernel
theorem dX12_immediate_132 : decode cX12_immediate 132 = .ok (.iload 5, 2) := by decide +kernel
theorem dX12_immediate_134 : decode cX12_immediate 134 = .ok (.ixor, 1) := by decide +kernel
theorem dX12_immediate_135 : decode cX12_immediate 135 = .ok (.istore 8, 2) := by decide +kernel
theorem dX12_immediate_137 : decode cX12_immediate 137 = .ok (.goto 42, 3) := by decide +kernel
theorem dX12_immediate_140 : decode cX12_immediate 140 = .ok (.iload_n 2, 1) := by decide +kernel
theorem dX12_immediate_141 : decode cX12_immediate 141 = .ok (.ifCond .ne 11, 3) := by decide +kernel
theorem dX12_immediate_144 : decode cX12_immediate 144 = .ok (.iload 4, 2) := by decide +kernel
theorem dX12_immediate_146 : decode cX12_immediate 146 = .ok (.iload 6, 2) := by decide +kernel
theorem dX12_immediate_148 : decode cX12_immediate 148 = .ok (.iushr, 1) := by decide +kernel
theorem dX12_immediate_149 : decode cX12_immediate 149 = .ok (.goto 8, 3) := by decide +kernel
theorem dX12_immediate_152 : decode cX12_immediate 152 = .ok (.iload 4, 2) := by decide +kernel
theorem dX12_immediate_154 : decode cX12_immediate 154 = .ok (.iload 6, 2) := by decide +kernel
theorem dX12_immediate_156 : decode cX12_immediate 156 = .ok (.ishr, 1) := by decide +kernel
theorem dX12_immediate_157 : decode cX12_immediate 157 = .ok (.istore 8, 2) := by decide +kernel
theorem dX12_immediate_159 : decode cX12_immediate 159 = .ok (.goto 20, 3) := by decide +kernel
theorem dX12_immediate_162 : decode cX12_immediate 162 = .ok (.iload 4, 2) := by decide +kernel
theorem dX12_immediate_164 : decode cX12_immediate 164 = .ok (.iload 5, 2) := by decide +kernel
theorem dX12_immediate_166 : decode cX12_immediate 166 = .ok (.ior, 1) := by decide +kernel
theorem dX12_immediate_167 : decode cX12_immediate 167 = .ok (.istore 8, 2) := by decide +kernel
theorem dX12_immediate_169 : decode cX12_immediate 169 = .ok (.goto 10, 3) := by decide +kernel
theorem dX12_immediate_172 : decode cX12_immediate 172 = .ok (.iload 4, 2) := by decide +kernel
theorem dX12_immediate_174 : decode cX12_immediate 174 = .ok (.iload 5, 2) := by decide +kernel
theorem dX12_immediate_176 : decode cX12_immediate 176 = .ok (.iand, 1) := by decide +kernel
theorem dX12_immediate_177 : decode cX12_immediate 177 = .ok (.istore 8, 2) := by decide +kernel
theorem dX12_immediate_179 : decode cX12_immediate 179 = .ok (.aload_n 0, 1) := by decide +kernel
theorem dX12_immediate_180 : decode cX12_immediate 180 = .ok (.iload_n 3, 1) := by decide +kernel
theorem dX12_immediate_181 : decode cX12_immediate 181 = .ok (.iload 8, 2) := by decide +kernel
theorem dX12_immediate_183 : decode cX12_immediate 183 = .ok (.invokevirtual 582, 3) := by decide +kernel
theorem dX12_immediate_186 : decode cX12_immediate 186 = .ok (.aload_n 0, 1) := by decide +kernel
theorem dX12_immediate_187 : decode cX12_immediate 187 = .ok (.iload 7, 2) := by decide +kernel
theorem dX12_immediate_189 : decode cX12_immediate 189 = .ok (.iconst 4, 1) := by decide +kernel
theorem dX12_immediate_190 : decode cX12_immediate 190 = .ok (.iadd, 1) := by decide +kernel
theorem dX12_immediate_191 : decode cX12_immediate 191 = .ok (.invokevirtual 585, 3) := by decide +kernel
theorem dX12_immediate_194 : decode cX12_immediate 194 = .ok (.ireturn, 1) := by decide +kernel
theorem dX12_both_0 : decode cX12_both 0 = .ok (.iload_n 2, 1) := by decide +kernel
theorem dX12_both_1 : decode cX12_both 1 = .ok (.ifCond .eq 25, 3) := by decide +kernel
theorem dX12_both_4 : decode cX12_both 4 = .ok (.iload_n 2, 1) := by decide +kernel
theorem dX12_both_5 : decode cX12_both 5 = .ok (.iconst 1, 1) := by decide +kernel
theorem dX12_both_6 : decode cX12_both 6 = .ok (.if_icmp .eq 20, 3) := by decide +kernel
theorem dX12_both_9 : decode cX12_both 9 = .ok (.iload_n 2, 1) := by decide +kernel
theorem dX12_both_10 : decode cX12_both 10 = .ok (.bipush 32, 2) := by decide +kernel
theorem dX12_both_12 : decode cX12_both 12 = .ok (.if_icmp .ne 12, 3) := by decide +kernel
theorem dX12_both_15 : decode cX12_both 15 = .ok (.iload_n 1, 1) := by decide +kernel
theorem dX12_both_16 : decode cX12_both 16 = .ok (.ifCond .eq 10, 3) := by decide +kernel
theorem dX12_both_19 : decode cX12_both 19 = .ok (.iload_n 1, 1) := by decide +kernel
theorem dX12_both_20 : decode cX12_both 20 = .ok (.iconst 5, 1) := by decide +kernel
theorem dX12_both_21 : decode cX12_both 21 = .ok (.if_icmp .eq 5, 3) := by decide +kernel
theorem dX12_both_24 : decode cX12_both 24 = .ok (.iconst 2, 1) := by decide +kernel
theorem dX12_both_25 : decode cX12_both 25 = .ok (.ireturn, 1) := by decide +kernel
theorem dX12_both_26 : decode cX12_both 26 = .ok (.aload_n 0, 1) := by decide +kernel
theorem dX12_both_27 : decode cX12_both 27 = .ok (.iload_n 3, 1) := by decide +kernel
theorem dX12_both_28 : decode cX12_both 28 = .ok (.iload_n 2, 1) := by decide +kernel
theorem dX12_both_29 : decode cX12_both 29 = .ok (.iconst 1, 1) := by decide +kernel
theorem dX12_both_30 : decode cX12_both 30 = .ok (.if_icmp .ne 14, 3) := by decide +kernel
theorem dX12_both_33 : decode cX12_both 33 = .ok (.iload_n 1, 1) := by decide +kernel
theorem dX12_both_34 : decode cX12_both 34 = .ok (.iload 4, 2) := by decide +kernel
theorem dX12_both_36 : decode cX12_both 36 = .ok (.iload 5, 2) := by decide +kernel
theorem dX12_both_38 : decode cX12_both 38 = .ok (.invokestatic 617, 3) := by decide +kernel
theorem dX12_both_41 : decode cX12_both 41 = .ok (.goto 150, 3) := by decide +kernel
theorem dX12_both_44 : decode cX12_both 44 = .ok (.iload_n 2, 1) := by decide +kernel
theorem dX12_both_45 : decode cX12_both 45 = .ok (.bipush 32, 2) := by decide +kernel
theorem dX12_both_47 : decode cX12_both 47 = .ok (.if_icmp .ne 26, 3) := by decide +kernel
theorem dX12_both_50 : decode cX12_both 50 = .ok (.iload_n 1, 1) := by decide +kernel
theorem dX12_both_51 : decode cX12_both 51 = .ok (.ifCond .ne 11, 3) := by decide +kernel
theorem dX12_both_54 : decode cX12_both 54 = .ok (.iload 4, 2) := by decide +kernel
theorem dX12_both_56 : decode cX12_both 56 = .ok (.iload 5, 2) := by decide +kernel
theorem dX12_both_58 : decode cX12_both 58 = .ok (.isub, 1) := by decide +kernel
theorem dX12_both_59 : decode cX12_both 59 = .ok (.goto 132, 3) := by decide +kernel
theorem dX12_both_62 : decode cX12_both 62 = .ok (.iload 4, 2) := by decide +kernel
theorem dX12_both_64 : decode cX12_both 64 = .ok (.iload 5, 2) := by decide +kernel
theorem dX12_both_66 : decode cX12_both 66 = .ok (.bipush 31, 2) := by decide +kernel
theorem dX12_both_68 : decode cX12_both 68 = .ok (.iand, 1) := by decide +kernel
theorem dX12_both_69 : decode cX12_both 69 = .ok (.ishr, 1) := by decide +kernel
theorem dX12_both_70 : decode cX12_both 70 = .ok (.goto 121, 3) := by decide +kernel
theorem dX12_both_73 : decode cX12_both 73 = .ok (.iload_n 1, 1) := by decide +kernel
theorem dX12_both_74 : decode cX12_both 74 = .ok (.ifCond .ne 11, 3) := by decide +kernel
theorem dX12_both_77 : decode cX12_both 77 = .ok (.iload 4, 2) := by decide +kernel
theorem dX12_both_79 : decode cX12_both 79 = .ok (.iload 5, 2) := by decide +kernel
theorem dX12_both_81 : decode cX12_both 81 = .ok (.iadd, 1) := by decide +kernel
theorem dX12_both_82 : decode cX12_both 82 = .ok (.goto 109, 3) := by decide +kernel
theorem dX12_both_85 : decode cX12_both 85 = .ok (.iload_n 1, 1) := by decide +kernel
theorem dX12_both_86 : decode cX12_both 86 = .ok (.iconst 1, 1) := by decide +kernel
theorem dX12_both_87 : decode cX12_both 87 = .ok (.if_icmp .ne 14, 3) := by decide +kernel
theorem dX12_both_90 : decode cX12_both 90 = .ok (.iload 4, 2) := by decide +kernel
theorem dX12_both_92 : decode cX12_both 92 = .ok (.iload 5, 2) := by decide +kernel
theorem dX12_both_94 : decode cX12_both 94 = .ok (.bipush 31, 2) := by decide +kernel
theorem dX12_both_96 : decode cX12_both 96 = .ok (.iand, 1) := by decide +kernel
theorem dX12_both_97 : decode cX12_both 97 = .ok (.ishl, 1) := by decide +kernel
theorem dX12_both_98 : decode cX12_both 98 = .ok (.goto 93, 3) := by decide +kernel
theorem dX12_both_101 : decode cX12_both 101 = .ok (.iload_n 1, 1) := by decide +kernel
theorem dX12_both_102 : decode cX12_both 102 = .ok (.iconst 2, 1) := by decide +kernel
theorem dX12_both_103 : decode cX12_both 103 = .ok (.if_icmp .ne 15, 3) := by decide +kernel
theorem dX12_both_106 : decode cX12_both 106 = .ok (.bipush 36, 2) := by decide +kernel
theorem dX12_both_108 : decode cX12_both 108 = .ok (.iload 4, 2) := by decide +kernel
theorem dX12_both_110 : decode cX12_both 110 = .ok (.iload 5, 2) := by decide +kernel
theorem dX12_both_112 : decode cX12_both 112 = .ok (.invokestatic 500, 3) := by decide +kernel
theorem dX12_both_115 : decode cX12_both 115 = .ok (.goto 76, 3) := by decide +kernel
theorem dX12_both_118 : decode cX12_both 118 = .ok (.iload_n 1, 1) := by decide +kernel
theorem dX12_both_119 : decode cX12_both 119 = .ok (.iconst 3, 1) := by decide +kernel
theorem dX12_both_120 : decode cX12_both 120 = .ok (.if_icmp .ne 23, 3) := by decide +kernel
theorem dX12_both_123 : decode cX12_both 123 = .ok (.bipush 36, 2) := by decide +kernel
theorem dX12_both_125 : decode cX12_both 125 = .ok (.iload 4, 2) := by decide +kernel
theorem dX12_both_127 : decode cX12_both 127 = .ok (.ldc_w 490, 3) := by decide +kernel
theorem dX12_both_130 : decode cX12_both 130 = .ok (.iadd, 1) := by decide +kernel
theorem dX12_both_131 : decode cX12_both 131 = .ok (.iload 5, 2) := by decide +kernel
theorem dX12_both_133 : decode cX12_both 133 = .ok (.ldc_w 490, 3) := by decide +kernel
theorem dX12_both_136 : decode cX12_both 136 = .ok (.iadd, 1) := by decide +kernel
theorem dX12_both_137 : decode cX12_both 137 = .ok (.invokestatic 500, 3) := by decide +kernel
theorem dX12_both_140 : decode cX12_both 140 = .ok (.goto 51, 3) := by decide +kernel
theorem dX12_both_143 : decode cX12_both 143 = .ok (.iload_n 1, 1) := by decide +kernel
theorem dX12_both_144 : decode cX12_both 144 = .ok (.iconst 4, 1) := by decide +kernel
theorem dX12_both_145 : decode cX12_both 145 = .ok (.if_icmp .ne 11, 3) := by decide +kernel
theorem dX12_both_148 : decode cX12_both 148 = .ok (.iload 4, 2) := by decide +kernel
theorem dX12_both_150 : decode cX12_both 150 = .ok (.iload 5, 2) := by decide +kernel
theorem dX12_both_152 : decode cX12_both 152 = .ok (.ixor, 1) := by decide +kernel
theorem dX12_both_153 : decode cX12_both 153 = .ok (.goto 38, 3) := by decide +kernel
theorem dX12_both_156 : decode cX12_both 156 = .ok (.iload_n 1, 1) := by decide +kernel
theorem dX12_both_157 : decode cX12_both 157 = .ok (.iconst 5, 1) := by decide +kernel
theorem dX12_both_158 : decode cX12_both 158 = .ok (.if_icmp .ne 14, 3) := by decide +kernel
theorem dX12_both_161 : decode cX12_both 161 = .ok (.iload 4, 2) := by decide +kernel
theorem dX12_both_163 : decode cX12_both 163 = .ok (.iload 5, 2) := by decide +kernel
theorem dX12_both_165 : decode cX12_both 165 = .ok (.bipush 31, 2) := by decide +kernel
theorem dX12_both_167 : decode cX12_both 167 = .ok (.iand, 1) := by decide +kernel
theorem dX12_both_168 : decode cX12_both 168 = .ok (.iushr, 1) := by decide +kernel
theorem dX12_both_169 : decode cX12_both 169 = .ok (.goto 22, 3) := by decide +kernel
theorem dX12_both_172 : decode cX12_both 172 = .ok (.iload_n 1, 1) := by decide +kernel
theorem dX12_both_173 : decode cX12_both 173 = .ok (.bipush 6, 2) := by decide +kernel
theorem dX12_both_175 : decode cX12_both 175 = .ok (.if_icmp .ne 11, 3) := by decide +kernel
theorem dX12_both_178 : decode cX12_both 178 = .ok (.iload 4, 2) := by decide +kernel
theorem dX12_both_180 : decode cX12_both 180 = .ok (.iload 5, 2) := by decide +kernel
theorem dX12_both_182 : decode cX12_both 182 = .ok (.ior, 1) := by decide +kernel
theorem dX12_both_183 : decode cX12_both 183 = .ok (.goto 8, 3) := by decide +kernel
theorem dX12_both_186 : decode cX12_both 186 = .ok (.iload 4, 2) := by decide +kernel
theorem dX12_both_188 : decode cX12_both 188 = .ok (.iload 5, 2) := by decide +kernel
theorem dX12_both_190 : decode cX12_both 190 = .ok (.iand, 1) := by decide +kernel
theorem dX12_both_191 : decode cX12_both 191 = .ok (.invokevirtual 582, 3) := by decide +kernel
theorem dX12_both_194 : decode cX12_both 194 = .ok (.aload_n 0, 1) := by decide +kernel
theorem dX12_both_195 : decode cX12_both 195 = .ok (.iload 6, 2) := by decide +kernel
theorem dX12_both_197 : decode cX12_both 197 = .ok (.iconst 4, 1) := by decide +kernel
theorem dX12_both_198 : decode cX12_both 198 = .ok (.iadd, 1) := by decide +kernel
theorem dX12_both_199 : decode cX12_both 199 = .ok (.invokevirtual 585, 3) := by decide +kernel
theorem dX12_both_202 : decode cX12_both 202 = .ok (.ireturn, 1) := by decide +kernel
theorem dX12_product_0 : decode cX12_product 0 = .ok (.iload_n 1, 1) := by decide +kernel
theorem dX12_product_1 : decode cX12_product 1 = .ok (.i2l, 1) := by decide +kernel
theorem dX12_product_2 : decode cX12_product 2 = .ok (.lstore_n 3, 1) := by decide +kernel
theorem dX12_product_3 : decode cX12_product 3 = .ok (.iload_n 2, 1) := by decide +kernel
theorem dX12_product_4 : decode cX12_product 4 = .ok (.i2l, 1) := by decide +kernel
theorem dX12_product_5 : decode cX12_product 5 = .ok (.lstore 5, 2) := by decide +kernel
theorem dX12_product_7 : decode cX12_product 7 = .ok (.lload_n 3, 1) := by decide +kernel
theorem dX12_product_8 : decode cX12_product 8 = .ok (.ldc2_w 228, 3) := by decide +kernel
theorem dX12_product_11 : decode cX12_product 11 = .ok (.land, 1) := by decide +kernel
theorem dX12_product_12 : decode cX12_product 12 = .ok (.lstore 7, 2) := by decide +kernel
theorem dX12_product_14 : decode cX12_product 14 = .ok (.lload 5, 2) := by decide +kernel
theorem dX12_product_16 : decode cX12_product 16 = .ok (.ldc2_w 228, 3) := by decide +kernel
theorem dX12_product_19 : decode cX12_product 19 = .ok (.land, 1) := by decide +kernel
theorem dX12_product_20 : decode cX12_product 20 = .ok (.lstore 9, 2) := by decide +kernel
theorem dX12_product_22 : decode cX12_product 22 = .ok (.iload_n 0, 1) := by decide +kernel
theorem dX12_product_23 : decode cX12_product 23 = .ok (.tableswitch 100 0 6 #[41, 45, 54, 63, 73, 79, 94], 41) := by decide +kernel
theorem dX12_product_64 : decode cX12_product 64 = .ok (.iload_n 1, 1) := by decide +kernel
theorem dX12_product_65 : decode cX12_product 65 = .ok (.iload_n 2, 1) := by decide +kernel
theorem dX12_product_66 : decode cX12_product 66 = .ok (.imul, 1) := by decide +kernel
theorem dX12_product_67 : decode cX12_product 67 = .ok (.ireturn, 1) := by decide +kernel
theorem dX12_product_68 : decode cX12_product 68 = .ok (.lload_n 3, 1) := by decide +kernel
theorem dX12_product_69 : decode cX12_product 69 = .ok (.lload 5, 2) := by decide +kernel
theorem dX12_product_71 : decode cX12_product 71 = .ok (.lmul, 1) := by decide +kernel
theorem dX12_product_72 : decode cX12_product 72 = .ok (.bipush 32, 2) := by decide +kernel
theorem dX12_product_74 : decode cX12_product 74 = .ok (.lshr, 1) := by decide +kernel
theorem dX12_product_75 : decode cX12_product 75 = .ok (.l2i, 1) := by decide +kernel
theorem dX12_product_76 : decode cX12_product 76 = .ok (.ireturn, 1) := by decide +kernel
theorem dX12_product_77 : decode cX12_product 77 = .ok (.lload_n 3, 1) := by decide +kernel
theorem dX12_product_78 : decode cX12_product 78 = .ok (.lload 9, 2) := by decide +kernel
theorem dX12_product_80 : decode cX12_product 80 = .ok (.lmul, 1) := by decide +kernel
theorem dX12_product_81 : decode cX12_product 81 = .ok (.bipush 32, 2) := by decide +kernel
theorem dX12_product_83 : decode cX12_product 83 = .ok (.lshr, 1) := by decide +kernel
theorem dX12_product_84 : decode cX12_product 84 = .ok (.l2i, 1) := by decide +kernel
theorem dX12_product_85 : decode cX12_product 85 = .ok (.ireturn, 1) := by decide +kernel
theorem dX12_product_86 : decode cX12_product 86 = .ok (.lload 7, 2) := by decide +kernel
theorem dX12_product_88 : decode cX12_product 88 = .ok (.lload 9, 2) := by decide +kernel
theorem dX12_product_90 : decode cX12_product 90 = .ok (.lmul, 1) := by decide +kernel
theorem dX12_product_91 : decode cX12_product 91 = .ok (.bipush 32, 2) := by decide +kernel
theorem dX12_product_93 : decode cX12_product 93 = .ok (.lushr, 1) := by decide +kernel
theorem dX12_product_94 : decode cX12_product 94 = .ok (.l2i, 1) := by decide +kernel
theorem dX12_product_95 : decode cX12_product 95 = .ok (.ireturn, 1) := by decide +kernel
theorem dX12_product_96 : decode cX12_product 96 = .ok (.iload_n 1, 1) := by decide +kernel
theorem dX12_product_97 : decode cX12_product 97 = .ok (.iload_n 2, 1) := by decide +kernel
theorem dX12_product_98 : decode cX12_product 98 = .ok (.invokestatic 491, 3) := by decide +kernel
theorem dX12_product_101 : decode cX12_product 101 = .ok (.ireturn, 1) := by decide +kernel
theorem dX12_product_102 : decode cX12_product 102 = .ok (.iload_n 2, 1) := by decide +kernel
theorem dX12_product_103 : decode cX12_product 103 = .ok (.ifCond .ne 7, 3) := by decide +kernel
theorem dX12_product_106 : decode cX12_product 106 = .ok (.iconst (-1), 1) := by decide +kernel
theorem dX12_product_107 : decode cX12_product 107 = .ok (.goto 9, 3) := by decide +kernel
theorem dX12_product_110 : decode cX12_product 110 = .ok (.lload 7, 2) := by decide +kernel
theorem dX12_product_112 : decode cX12_product 112 = .ok (.lload 9, 2) := by decide +kernel
theorem dX12_product_114 : decode cX12_product 114 = .ok (.ldiv, 1) := by decide +kernel
theorem dX12_product_115 : decode cX12_product 115 = .ok (.l2i, 1) := by decide +kernel
theorem dX12_product_116 : decode cX12_product 116 = .ok (.ireturn, 1) := by decide +kernel
theorem dX12_product_117 : decode cX12_product 117 = .ok (.iload_n 1, 1) := by decide +kernel
theorem dX12_product_118 : decode cX12_product 118 = .ok (.iload_n 2, 1) := by decide +kernel
theorem dX12_product_119 : decode cX12_product 119 = .ok (.invokestatic 494, 3) := by decide +kernel
theorem dX12_product_122 : decode cX12_product 122 = .ok (.ireturn, 1) := by decide +kernel
theorem dX12_product_123 : decode cX12_product 123 = .ok (.iload_n 2, 1) := by decide +kernel
theorem dX12_product_124 : decode cX12_product 124 = .ok (.ifCond .ne 7, 3) := by decide +kernel
theorem dX12_product_127 : decode cX12_product 127 = .ok (.iload_n 1, 1) := by decide +kernel
theorem dX12_product_128 : decode cX12_product 128 = .ok (.goto 9, 3) := by decide +kernel
theorem dX12_product_131 : decode cX12_product 131 = .ok (.lload 7, 2) := by decide +kernel
theorem dX12_product_133 : decode cX12_product 133 = .ok (.lload 9, 2) := by decide +kernel
theorem dX12_product_135 : decode cX12_product 135 = .ok (.lrem, 1) := by decide +kernel
theorem dX12_product_136 : decode cX12_product 136 = .ok (.l2i, 1) := by decide +kernel
theorem dX12_product_137 : decode cX12_product 137 = .ok (.ireturn, 1) := by decide +kernel
theorem dJ11_isValidCodePoint_9a6ad_0 : decode cJ11_isValidCodePoint_9a6ad 0 = .ok (.iload_n 0, 1) := by decide +kernel
theorem dJ11_isValidCodePoint_9a6ad_1 : decode cJ11_isValidCodePoint_9a6ad 1 = .ok (.bipush 16, 2) := by decide +kernel
theorem dJ11_isValidCodePoint_9a6ad_3 : decode cJ11_isValidCodePoint_9a6ad 3 = .ok (.iushr, 1) := by decide +kernel
theorem dJ11_isValidCodePoint_9a6ad_4 : decode cJ11_isValidCodePoint_9a6ad 4 = .ok (.istore_n 1, 1) := by decide +kernel
theorem dJ11_isValidCodePoint_9a6ad_5 : decode cJ11_isValidCodePoint_9a6ad 5 = .ok (.iload_n 1, 1) := by decide +kernel
theorem dJ11_isValidCodePoint_9a6ad_6 : decode cJ11_isValidCodePoint_9a6ad 6 = .ok (.bipush 17, 2) := by decide +kernel
theorem dJ11_isValidCodePoint_9a6ad_8 : decode cJ11_isValidCodePoint_9a6ad 8 = .ok (.if_icmp .ge 7, 3) := by decide +kernel
theorem dJ11_isValidCodePoint_9a6ad_11 : decode cJ11_isValidCodePoint_9a6ad 11 = .ok (.iconst 1, 1) := by decide +kernel
theorem dJ11_isValidCodePoint_9a6ad_12 : decode cJ11_isValidCodePoint_9a6ad 12 = .ok (.goto 4, 3) := by decide +kernel
theorem dJ11_isValidCodePoint_9a6ad_15 : decode cJ11_isValidCodePoint_9a6ad 15 = .ok (.iconst 0, 1) := by decide +kernel
theorem dJ11_isValidCodePoint_9a6ad_16 : decode cJ11_isValidCodePoint_9a6ad 16 = .ok (.ireturn, 1) := by decide +kernel
theorem dJ11_highSurrogate_5068e_0 : decode cJ11_highSurrogate_5068e 0 = .ok (.iload_n 0, 1) := by decide +kernel
theorem dJ11_highSurrogate_5068e_1 : decode cJ11_highSurrogate_5068e 1 = .ok (.bipush 10, 2) := by decide +kernel
theorem dJ11_highSurrogate_5068e_3 : decode cJ11_highSurrogate_5068e 3 = .ok (.iushr, 1) := by decide +kernel
theorem dJ11_highSurrogate_5068e_4 : decode cJ11_highSurrogate_5068e 4 = .ok (.ldc 110, 2) := by decide +kernel
theorem dJ11_highSurrogate_5068e_6 : decode cJ11_highSurrogate_5068e 6 = .ok (.iadd, 1) := by decide +kernel
theorem dJ11_highSurrogate_5068e_7 : decode cJ11_highSurrogate_5068e 7 = .ok (.i2c, 1) := by decide +kernel
theorem dJ11_highSurrogate_5068e_8 : decode cJ11_highSurrogate_5068e 8 = .ok (.ireturn, 1) := by decide +kernel
theorem dJ11_lowSurrogate_5068e_0 : decode cJ11_lowSurrogate_5068e 0 = .ok (.iload_n 0, 1) := by decide +kernel
theorem dJ11_lowSurrogate_5068e_1 : decode cJ11_lowSurrogate_5068e 1 = .ok (.sipush 1023, 3) := by decide +kernel
theorem dJ11_lowSurrogate_5068e_4 : decode cJ11_lowSurrogate_5068e 4 = .ok (.iand, 1) := by decide +kernel
theorem dJ11_lowSurrogate_5068e_5 : decode cJ11_lowSurrogate_5068e 5 = .ok (.ldc 76, 2) := by decide +kernel
theorem dJ11_lowSurrogate_5068e_7 : decode cJ11_lowSurrogate_5068e 7 = .ok (.iadd, 1) := by decide +kernel
theorem dJ11_lowSurrogate_5068e_8 : decode cJ11_lowSurrogate_5068e 8 = .ok (.i2c, 1) := by decide +kernel
theorem dJ11_lowSurrogate_5068e_9 : decode cJ11_lowSurrogate_5068e 9 = .ok (.ireturn, 1) := by decide +kernel
theorem dJ9_max_7cf53_0 : decode cJ9_max_7cf53 0 = .ok (.iload_n 0, 1) := by decide +kernel
theorem dJ9_max_7cf53_1 : decode cJ9_max_7cf53 1 = .ok (.iload_n 1, 1) := by decide +kernel
theorem dJ9_max_7cf53_2 : decode cJ9_max_7cf53 2 = .ok (.if_icmp .lt 7, 3) := by decide +kernel
theorem dJ9_max_7cf53_5 : decode cJ9_max_7cf53 5 = .ok (.iload_n 0, 1) := by decide +kernel
theorem dJ9_max_7cf53_6 : decode cJ9_max_7cf53 6 = .ok (.goto 4, 3) := by decide +kernel
theorem dJ9_max_7cf53_9 : decode cJ9_max_7cf53 9 = .ok (.iload_n 1, 1) := by decide +kernel
theorem dJ9_max_7cf53_10 : decode cJ9_max_7cf53 10 = .ok (.ireturn, 1) := by decide +kernel
theorem dJ9_min_7cf53_0 : decode cJ9_min_7cf53 0 = .ok (.iload_n 0, 1) := by decide +kernel
theorem dJ9_min_7cf53_1 : decode cJ9_min_7cf53 1 = .ok (.iload_n 1, 1) := by decide +kernel
theorem dJ9_min_7cf53_2 : decode cJ9_min_7cf53 2 = .ok (.if_icmp .gt 7, 3) := by decide +kernel
theorem dJ9_min_7cf53_5 : decode cJ9_min_7cf53 5 = .ok (.iload_n 0, 1) := by decide +kernel
theorem dJ9_min_7cf53_6 : decode cJ9_min_7cf53 6 = .ok (.goto 4, 3) := by decide +kernel
theorem dJ9_min_7cf53_9 : decode cJ9_min_7cf53 9 = .ok (.iload_n 1, 1) := by decide +kernel
theorem dJ9_min_7cf53_10 : decode cJ9_min_7cf53 10 = .ok (.ireturn, 1) := by decide +kernel
theorem dJ0_length_8abf5_0 : decode cJ0_length_8abf5 0 = .ok (.aload_n 0, 1) := by decide +kernel
theorem dJ0_length_8abf5_1 : decode cJ0_length_8abf5 1 = .ok (.getfield 9, 3) := by decide +kernel
theorem dJ0_length_8abf5_4 : decode cJ0_length_8abf5 4 = .ok (.arraylength, 1) := by decide +kernel
theorem dJ0_length_8abf5_5 : decode cJ0_length_8abf5 5 = .ok (.aload_n 0, 1) := by decide +kernel
theorem dJ0_length_8abf5_6 : decode cJ0_length_8abf5 6 = .ok (.invokevirtual 335, 3) := by decide +kernel
theorem dJ0_length_8abf5_9 : decode cJ0_length_8abf5 9 = .ok (.ishr, 1) := by decide +kernel
theorem dJ0_length_8abf5_10 : decode cJ0_length_8abf5 10 = .ok (.ireturn, 1) := by decide +kernel
theorem dJ0_charAt_5068e_0 : decode cJ0_charAt_5068e 0 = .ok (.aload_n 0, 1) := by decide +kernel
theorem dJ0_charAt_5068e_1 : decode cJ0_charAt_5068e 1 = .ok (.invokevirtual 492, 3) := by decide +kernel
theorem dJ0_charAt_5068e_4 : decode cJ0_charAt_5068e 4 = .ok (.ifCond .eq 12, 3) := by decide +kernel
theorem dJ0_charAt_5068e_7 : decode cJ0_charAt_5068e 7 = .ok (.aload_n 0, 1) := by decide +kernel
theorem dJ0_charAt_5068e_8 : decode cJ0_charAt_5068e 8 = .ok (.getfield 9, 3) := by decide +kernel
theorem dJ0_charAt_5068e_11 : decode cJ0_charAt_5068e 11 = .ok (.iload_n 1, 1) := by decide +kernel
theorem dJ0_charAt_5068e_12 : decode cJ0_charAt_5068e 12 = .ok (.invokestatic 495, 3) := by decide +kernel
theorem dJ0_charAt_5068e_15 : decode cJ0_charAt_5068e 15 = .ok (.ireturn, 1) := by decide +kernel
theorem dJ0_charAt_5068e_16 : decode cJ0_charAt_5068e 16 = .ok (.aload_n 0, 1) := by decide +kernel
theorem dJ0_charAt_5068e_17 : decode cJ0_charAt_5068e 17 = .ok (.getfield 9, 3) := by decide +kernel
theorem dJ0_charAt_5068e_20 : decode cJ0_charAt_5068e 20 = .ok (.iload_n 1, 1) := by decide +kernel
theorem dJ0_charAt_5068e_21 : decode cJ0_charAt_5068e 21 = .ok (.invokestatic 498, 3) := by decide +kernel
theorem dJ0_charAt_5068e_24 : decode cJ0_charAt_5068e 24 = .ok (.ireturn, 1) := by decide +kernel
theorem dJ0_indexOf_0f7a4_0 : decode cJ0_indexOf_0f7a4 0 = .ok (.aload_n 0, 1) := by decide +kernel
theorem dJ0_indexOf_0f7a4_1 : decode cJ0_indexOf_0f7a4 1 = .ok (.iload_n 1, 1) := by decide +kernel
theorem dJ0_indexOf_0f7a4_2 : decode cJ0_indexOf_0f7a4 2 = .ok (.iconst 0, 1) := by decide +kernel
theorem dJ0_indexOf_0f7a4_3 : decode cJ0_indexOf_0f7a4 3 = .ok (.invokevirtual 633, 3) := by decide +kernel
theorem dJ0_indexOf_0f7a4_6 : decode cJ0_indexOf_0f7a4 6 = .ok (.ireturn, 1) := by decide +kernel
theorem dJ0_indexOf_7cf53_0 : decode cJ0_indexOf_7cf53 0 = .ok (.aload_n 0, 1) := by decide +kernel
theorem dJ0_indexOf_7cf53_1 : decode cJ0_indexOf_7cf53 1 = .ok (.invokevirtual 492, 3) := by decide +kernel
theorem dJ0_indexOf_7cf53_4 : decode cJ0_indexOf_7cf53 4 = .ok (.ifCond .eq 19, 3) := by decide +kernel
theorem dJ0_indexOf_7cf53_7 : decode cJ0_indexOf_7cf53 7 = .ok (.aload_n 0, 1) := by decide +kernel
theorem dJ0_indexOf_7cf53_8 : decode cJ0_indexOf_7cf53 8 = .ok (.getfield 9, 3) := by decide +kernel
theorem dJ0_indexOf_7cf53_11 : decode cJ0_indexOf_7cf53 11 = .ok (.iload_n 1, 1) := by decide +kernel
theorem dJ0_indexOf_7cf53_12 : decode cJ0_indexOf_7cf53 12 = .ok (.iload_n 2, 1) := by decide +kernel
theorem dJ0_indexOf_7cf53_13 : decode cJ0_indexOf_7cf53 13 = .ok (.aload_n 0, 1) := by decide +kernel
theorem dJ0_indexOf_7cf53_14 : decode cJ0_indexOf_7cf53 14 = .ok (.invokevirtual 505, 3) := by decide +kernel
theorem dJ0_indexOf_7cf53_17 : decode cJ0_indexOf_7cf53 17 = .ok (.invokestatic 637, 3) := by decide +kernel
theorem dJ0_indexOf_7cf53_20 : decode cJ0_indexOf_7cf53 20 = .ok (.goto 16, 3) := by decide +kernel
theorem dJ0_indexOf_7cf53_23 : decode cJ0_indexOf_7cf53 23 = .ok (.aload_n 0, 1) := by decide +kernel
theorem dJ0_indexOf_7cf53_24 : decode cJ0_indexOf_7cf53 24 = .ok (.getfield 9, 3) := by decide +kernel
theorem dJ0_indexOf_7cf53_27 : decode cJ0_indexOf_7cf53 27 = .ok (.iload_n 1, 1) := by decide +kernel
theorem dJ0_indexOf_7cf53_28 : decode cJ0_indexOf_7cf53 28 = .ok (.iload_n 2, 1) := by decide +kernel
theorem dJ0_indexOf_7cf53_29 : decode cJ0_indexOf_7cf53 29 = .ok (.aload_n 0, 1) := by decide +kernel
theorem dJ0_indexOf_7cf53_30 : decode cJ0_indexOf_7cf53 30 = .ok (.invokevirtual 505, 3) := by decide +kernel
theorem dJ0_indexOf_7cf53_33 : decode cJ0_indexOf_7cf53 33 = .ok (.invokestatic 640, 3) := by decide +kernel
theorem dJ0_indexOf_7cf53_36 : decode cJ0_indexOf_7cf53 36 = .ok (.ireturn, 1) := by decide +kernel
theorem dJ0_coder_7d493_0 : decode cJ0_coder_7d493 0 = .ok (.getstatic 38, 3) := by decide +kernel
theorem dJ0_coder_7d493_3 : decode cJ0_coder_7d493 3 = .ok (.ifCond .eq 10, 3) := by decide +kernel
theorem dJ0_coder_7d493_6 : decode cJ0_coder_7d493 6 = .ok (.aload_n 0, 1) := by decide +kernel
theorem dJ0_coder_7d493_7 : decode cJ0_coder_7d493 7 = .ok (.getfield 15, 3) := by decide +kernel
theorem dJ0_coder_7d493_10 : decode cJ0_coder_7d493 10 = .ok (.goto 4, 3) := by decide +kernel
theorem dJ0_coder_7d493_13 : decode cJ0_coder_7d493 13 = .ok (.iconst 1, 1) := by decide +kernel
theorem dJ0_coder_7d493_14 : decode cJ0_coder_7d493 14 = .ok (.ireturn, 1) := by decide +kernel
theorem dJ0_isLatin1_aae02_0 : decode cJ0_isLatin1_aae02 0 = .ok (.getstatic 38, 3) := by decide +kernel
theorem dJ0_isLatin1_aae02_3 : decode cJ0_isLatin1_aae02 3 = .ok (.ifCond .eq 14, 3) := by decide +kernel
theorem dJ0_isLatin1_aae02_6 : decode cJ0_isLatin1_aae02 6 = .ok (.aload_n 0, 1) := by decide +kernel
theorem dJ0_isLatin1_aae02_7 : decode cJ0_isLatin1_aae02 7 = .ok (.getfield 15, 3) := by decide +kernel
theorem dJ0_isLatin1_aae02_10 : decode cJ0_isLatin1_aae02 10 = .ok (.ifCond .ne 7, 3) := by decide +kernel
theorem dJ0_isLatin1_aae02_13 : decode cJ0_isLatin1_aae02 13 = .ok (.iconst 1, 1) := by decide +kernel
theorem dJ0_isLatin1_aae02_14 : decode cJ0_isLatin1_aae02 14 = .ok (.goto 4, 3) := by decide +kernel
theorem dJ0_isLatin1_aae02_17 : decode cJ0_isLatin1_aae02 17 = .ok (.iconst 0, 1) := by decide +kernel
theorem dJ0_isLatin1_aae02_18 : decode cJ0_isLatin1_aae02 18 = .ok (.ireturn, 1) := by decide +kernel
theorem dJ0_checkIndex_df160_0 : decode cJ0_checkIndex_df160 0 = .ok (.iload_n 0, 1) := by decide +kernel
theorem dJ0_checkIndex_df160_1 : decode cJ0_checkIndex_df160 1 = .ok (.iload_n 1, 1) := by decide +kernel
theorem dJ0_checkIndex_df160_2 : decode cJ0_checkIndex_df160 2 = .ok (.getstatic 1053, 3) := by decide +kernel
theorem dJ0_checkIndex_df160_5 : decode cJ0_checkIndex_df160 5 = .ok (.invokestatic 1059, 3) := by decide +kernel
theorem dJ0_checkIndex_df160_8 : decode cJ0_checkIndex_df160 8 = .ok (.pop, 1) := by decide +kernel
theorem dJ0_checkIndex_df160_9 : decode cJ0_checkIndex_df160 9 = .ok (.return_, 1) := by decide +kernel
theorem dJ0_checkBoundsBeginEnd_23922_0 : decode cJ0_checkBoundsBeginEnd_23922 0 = .ok (.iload_n 0, 1) := by decide +kernel
theorem dJ0_checkBoundsBeginEnd_23922_1 : decode cJ0_checkBoundsBeginEnd_23922 1 = .ok (.iload_n 1, 1) := by decide +kernel
theorem dJ0_checkBoundsBeginEnd_23922_2 : decode cJ0_checkBoundsBeginEnd_23922 2 = .ok (.iload_n 2, 1) := by decide +kernel
theorem dJ0_checkBoundsBeginEnd_23922_3 : decode cJ0_checkBoundsBeginEnd_23922 3 = .ok (.getstatic 1053, 3) := by decide +kernel
theorem dJ0_checkBoundsBeginEnd_23922_6 : decode cJ0_checkBoundsBeginEnd_23922 6 = .ok (.invokestatic 1062, 3) := by decide +kernel
theorem dJ0_checkBoundsBeginEnd_23922_9 : decode cJ0_checkBoundsBeginEnd_23922 9 = .ok (.pop, 1) := by decide +kernel
theorem dJ0_checkBoundsBeginEnd_23922_10 : decode cJ0_checkBoundsBeginEnd_23922 10 = .ok (.return_, 1) := by decide +kernel
theorem dJ1_charAt_3b067_0 : decode cJ1_charAt_3b067 0 = .ok (.iload_n 1, 1) := by decide +kernel
theorem dJ1_charAt_3b067_1 : decode cJ1_charAt_3b067 1 = .ok (.aload_n 0, 1) := by decide +kernel
theorem dJ1_charAt_3b067_2 : decode cJ1_charAt_3b067 2 = .ok (.arraylength, 1) := by decide +kernel
theorem dJ1_charAt_3b067_3 : decode cJ1_charAt_3b067 3 = .ok (.invokestatic 9, 3) := by decide +kernel
theorem dJ1_charAt_3b067_6 : decode cJ1_charAt_3b067 6 = .ok (.aload_n 0, 1) := by decide +kernel
theorem dJ1_charAt_3b067_7 : decode cJ1_charAt_3b067 7 = .ok (.iload_n 1, 1) := by decide +kernel
theorem dJ1_charAt_3b067_8 : decode cJ1_charAt_3b067 8 = .ok (.baload, 1) := by decide +kernel
theorem dJ1_charAt_3b067_9 : decode cJ1_charAt_3b067 9 = .ok (.sipush 255, 3) := by decide +kernel
theorem dJ1_charAt_3b067_12 : decode cJ1_charAt_3b067 12 = .ok (.iand, 1) := by decide +kernel
theorem dJ1_charAt_3b067_13 : decode cJ1_charAt_3b067 13 = .ok (.i2c, 1) := by decide +kernel
theorem dJ1_charAt_3b067_14 : decode cJ1_charAt_3b067 14 = .ok (.ireturn, 1) := by decide +kernel
theorem dJ1_canEncode_9a6ad_0 : decode cJ1_canEncode_9a6ad 0 = .ok (.iload_n 0, 1) := by decide +kernel
theorem dJ1_canEncode_9a6ad_1 : decode cJ1_canEncode_9a6ad 1 = .ok (.ifCond .lt 14, 3) := by decide +kernel
theorem dJ1_canEncode_9a6ad_4 : decode cJ1_canEncode_9a6ad 4 = .ok (.iload_n 0, 1) := by decide +kernel
theorem dJ1_canEncode_9a6ad_5 : decode cJ1_canEncode_9a6ad 5 = .ok (.sipush 255, 3) := by decide +kernel
theorem dJ1_canEncode_9a6ad_8 : decode cJ1_canEncode_9a6ad 8 = .ok (.if_icmp .gt 7, 3) := by decide +kernel
theorem dJ1_canEncode_9a6ad_11 : decode cJ1_canEncode_9a6ad 11 = .ok (.iconst 1, 1) := by decide +kernel
theorem dJ1_canEncode_9a6ad_12 : decode cJ1_canEncode_9a6ad 12 = .ok (.goto 4, 3) := by decide +kernel
theorem dJ1_canEncode_9a6ad_15 : decode cJ1_canEncode_9a6ad 15 = .ok (.iconst 0, 1) := by decide +kernel
theorem dJ1_canEncode_9a6ad_16 : decode cJ1_canEncode_9a6ad 16 = .ok (.ireturn, 1) := by decide +kernel
theorem dJ1_indexOf_4cfef_0 : decode cJ1_indexOf_4cfef 0 = .ok (.iload_n 1, 1) := by decide +kernel
theorem dJ1_indexOf_4cfef_1 : decode cJ1_indexOf_4cfef 1 = .ok (.invokestatic 88, 3) := by decide +kernel
theorem dJ1_indexOf_4cfef_4 : decode cJ1_indexOf_4cfef 4 = .ok (.ifCond .ne 5, 3) := by decide +kernel
theorem dJ1_indexOf_4cfef_7 : decode cJ1_indexOf_4cfef 7 = .ok (.iconst (-1), 1) := by decide +kernel
theorem dJ1_indexOf_4cfef_8 : decode cJ1_indexOf_4cfef 8 = .ok (.ireturn, 1) := by decide +kernel
theorem dJ1_indexOf_4cfef_9 : decode cJ1_indexOf_4cfef 9 = .ok (.iload_n 2, 1) := by decide +kernel
theorem dJ1_indexOf_4cfef_10 : decode cJ1_indexOf_4cfef 10 = .ok (.iconst 0, 1) := by decide +kernel
theorem dJ1_indexOf_4cfef_11 : decode cJ1_indexOf_4cfef 11 = .ok (.invokestatic 92, 3) := by decide +kernel
theorem dJ1_indexOf_4cfef_14 : decode cJ1_indexOf_4cfef 14 = .ok (.istore_n 2, 1) := by decide +kernel
theorem dJ1_indexOf_4cfef_15 : decode cJ1_indexOf_4cfef 15 = .ok (.iload_n 3, 1) := by decide +kernel
theorem dJ1_indexOf_4cfef_16 : decode cJ1_indexOf_4cfef 16 = .ok (.aload_n 0, 1) := by decide +kernel
theorem dJ1_indexOf_4cfef_17 : decode cJ1_indexOf_4cfef 17 = .ok (.arraylength, 1) := by decide +kernel
theorem dJ1_indexOf_4cfef_18 : decode cJ1_indexOf_4cfef 18 = .ok (.invokestatic 38, 3) := by decide +kernel
theorem dJ1_indexOf_4cfef_21 : decode cJ1_indexOf_4cfef 21 = .ok (.istore_n 3, 1) := by decide +kernel
theorem dJ1_indexOf_4cfef_22 : decode cJ1_indexOf_4cfef 22 = .ok (.iload_n 2, 1) := by decide +kernel
theorem dJ1_indexOf_4cfef_23 : decode cJ1_indexOf_4cfef 23 = .ok (.iload_n 3, 1) := by decide +kernel
theorem dJ1_indexOf_4cfef_24 : decode cJ1_indexOf_4cfef 24 = .ok (.if_icmp .lt 5, 3) := by decide +kernel
theorem dJ1_indexOf_4cfef_27 : decode cJ1_indexOf_4cfef 27 = .ok (.iconst (-1), 1) := by decide +kernel
theorem dJ1_indexOf_4cfef_28 : decode cJ1_indexOf_4cfef 28 = .ok (.ireturn, 1) := by decide +kernel
theorem dJ1_indexOf_4cfef_29 : decode cJ1_indexOf_4cfef 29 = .ok (.aload_n 0, 1) := by decide +kernel
theorem dJ1_indexOf_4cfef_30 : decode cJ1_indexOf_4cfef 30 = .ok (.iload_n 1, 1) := by decide +kernel
theorem dJ1_indexOf_4cfef_31 : decode cJ1_indexOf_4cfef 31 = .ok (.iload_n 2, 1) := by decide +kernel
theorem dJ1_indexOf_4cfef_32 : decode cJ1_indexOf_4cfef 32 = .ok (.iload_n 3, 1) := by decide +kernel
theorem dJ1_indexOf_4cfef_33 : decode cJ1_indexOf_4cfef 33 = .ok (.invokestatic 95, 3) := by decide +kernel
theorem dJ1_indexOf_4cfef_36 : decode cJ1_indexOf_4cfef 36 = .ok (.ireturn, 1) := by decide +kernel
theorem dJ1_indexOfChar_4cfef_0 : decode cJ1_indexOfChar_4cfef 0 = .ok (.iload_n 1, 1) := by decide +kernel
theorem dJ1_indexOfChar_4cfef_1 : decode cJ1_indexOfChar_4cfef 1 = .ok (.i2b, 1) := by decide +kernel
theorem dJ1_indexOfChar_4cfef_2 : decode cJ1_indexOfChar_4cfef 2 = .ok (.istore 4, 2) := by decide +kernel
theorem dJ1_indexOfChar_4cfef_4 : decode cJ1_indexOfChar_4cfef 4 = .ok (.iload_n 2, 1) := by decide +kernel
theorem dJ1_indexOfChar_4cfef_5 : decode cJ1_indexOfChar_4cfef 5 = .ok (.istore 5, 2) := by decide +kernel
theorem dJ1_indexOfChar_4cfef_7 : decode cJ1_indexOfChar_4cfef 7 = .ok (.iload 5, 2) := by decide +kernel
theorem dJ1_indexOfChar_4cfef_9 : decode cJ1_indexOfChar_4cfef 9 = .ok (.iload_n 3, 1) := by decide +kernel
theorem dJ1_indexOfChar_4cfef_10 : decode cJ1_indexOfChar_4cfef 10 = .ok (.if_icmp .ge 21, 3) := by decide +kernel
theorem dJ1_indexOfChar_4cfef_13 : decode cJ1_indexOfChar_4cfef 13 = .ok (.aload_n 0, 1) := by decide +kernel
theorem dJ1_indexOfChar_4cfef_14 : decode cJ1_indexOfChar_4cfef 14 = .ok (.iload 5, 2) := by decide +kernel
theorem dJ1_indexOfChar_4cfef_16 : decode cJ1_indexOfChar_4cfef 16 = .ok (.baload, 1) := by decide +kernel
theorem dJ1_indexOfChar_4cfef_17 : decode cJ1_indexOfChar_4cfef 17 = .ok (.iload 4, 2) := by decide +kernel
theorem dJ1_indexOfChar_4cfef_19 : decode cJ1_indexOfChar_4cfef 19 = .ok (.if_icmp .ne 6, 3) := by decide +kernel
theorem dJ1_indexOfChar_4cfef_22 : decode cJ1_indexOfChar_4cfef 22 = .ok (.iload 5, 2) := by decide +kernel
theorem dJ1_indexOfChar_4cfef_24 : decode cJ1_indexOfChar_4cfef 24 = .ok (.ireturn, 1) := by decide +kernel
theorem dJ1_indexOfChar_4cfef_25 : decode cJ1_indexOfChar_4cfef 25 = .ok (.iinc 5 1, 3) := by decide +kernel
theorem dJ1_indexOfChar_4cfef_28 : decode cJ1_indexOfChar_4cfef 28 = .ok (.goto (-21), 3) := by decide +kernel
theorem dJ1_indexOfChar_4cfef_31 : decode cJ1_indexOfChar_4cfef 31 = .ok (.iconst (-1), 1) := by decide +kernel
theorem dJ1_indexOfChar_4cfef_32 : decode cJ1_indexOfChar_4cfef 32 = .ok (.ireturn, 1) := by decide +kernel
theorem dJ2_getChar_3b067_0 : decode cJ2_getChar_3b067 0 = .ok (.getstatic 44, 3) := by decide +kernel
theorem dJ2_getChar_3b067_3 : decode cJ2_getChar_3b067 3 = .ok (.ifCond .ne 25, 3) := by decide +kernel
theorem dJ2_getChar_3b067_6 : decode cJ2_getChar_3b067 6 = .ok (.iload_n 1, 1) := by decide +kernel
theorem dJ2_getChar_3b067_7 : decode cJ2_getChar_3b067 7 = .ok (.ifCond .lt 11, 3) := by decide +kernel
theorem dJ2_getChar_3b067_10 : decode cJ2_getChar_3b067 10 = .ok (.iload_n 1, 1) := by decide +kernel
theorem dJ2_getChar_3b067_11 : decode cJ2_getChar_3b067 11 = .ok (.aload_n 0, 1) := by decide +kernel
theorem dJ2_getChar_3b067_12 : decode cJ2_getChar_3b067 12 = .ok (.invokestatic 48, 3) := by decide +kernel
theorem dJ2_getChar_3b067_15 : decode cJ2_getChar_3b067 15 = .ok (.if_icmp .lt 13, 3) := by decide +kernel
theorem dJ2_getChar_3b067_18 : decode cJ2_getChar_3b067 18 = .ok (.new 52, 3) := by decide +kernel
theorem dJ2_getChar_3b067_21 : decode cJ2_getChar_3b067 21 = .ok (.dup, 1) := by decide +kernel
theorem dJ2_getChar_3b067_22 : decode cJ2_getChar_3b067 22 = .ok (.ldc 54, 2) := by decide +kernel
theorem dJ2_getChar_3b067_24 : decode cJ2_getChar_3b067 24 = .ok (.invokespecial 56, 3) := by decide +kernel
theorem dJ2_getChar_3b067_27 : decode cJ2_getChar_3b067 27 = .ok (.athrow, 1) := by decide +kernel
theorem dJ2_getChar_3b067_28 : decode cJ2_getChar_3b067 28 = .ok (.iload_n 1, 1) := by decide +kernel
theorem dJ2_getChar_3b067_29 : decode cJ2_getChar_3b067 29 = .ok (.iconst 1, 1) := by decide +kernel
theorem dJ2_getChar_3b067_30 : decode cJ2_getChar_3b067 30 = .ok (.ishl, 1) := by decide +kernel
theorem dJ2_getChar_3b067_31 : decode cJ2_getChar_3b067 31 = .ok (.istore_n 1, 1) := by decide +kernel
theorem dJ2_getChar_3b067_32 : decode cJ2_getChar_3b067 32 = .ok (.aload_n 0, 1) := by decide +kernel
theorem dJ2_getChar_3b067_33 : decode cJ2_getChar_3b067 33 = .ok (.iload_n 1, 1) := by decide +kernel
theorem dJ2_getChar_3b067_34 : decode cJ2_getChar_3b067 34 = .ok (.iinc 1 1, 3) := by decide +kernel
theorem dJ2_getChar_3b067_37 : decode cJ2_getChar_3b067 37 = .ok (.baload, 1) := by decide +kernel
theorem dJ2_getChar_3b067_38 : decode cJ2_getChar_3b067 38 = .ok (.sipush 255, 3) := by decide +kernel
theorem dJ2_getChar_3b067_41 : decode cJ2_getChar_3b067 41 = .ok (.iand, 1) := by decide +kernel
theorem dJ2_getChar_3b067_42 : decode cJ2_getChar_3b067 42 = .ok (.getstatic 59, 3) := by decide +kernel
theorem dJ2_getChar_3b067_45 : decode cJ2_getChar_3b067 45 = .ok (.ishl, 1) := by decide +kernel
theorem dJ2_getChar_3b067_46 : decode cJ2_getChar_3b067 46 = .ok (.aload_n 0, 1) := by decide +kernel
theorem dJ2_getChar_3b067_47 : decode cJ2_getChar_3b067 47 = .ok (.iload_n 1, 1) := by decide +kernel
theorem dJ2_getChar_3b067_48 : decode cJ2_getChar_3b067 48 = .ok (.baload, 1) := by decide +kernel
theorem dJ2_getChar_3b067_49 : decode cJ2_getChar_3b067 49 = .ok (.sipush 255, 3) := by decide +kernel
theorem dJ2_getChar_3b067_52 : decode cJ2_getChar_3b067 52 = .ok (.iand, 1) := by decide +kernel
theorem dJ2_getChar_3b067_53 : decode cJ2_getChar_3b067 53 = .ok (.getstatic 63, 3) := by decide +kernel
theorem dJ2_getChar_3b067_56 : decode cJ2_getChar_3b067 56 = .ok (.ishl, 1) := by decide +kernel
theorem dJ2_getChar_3b067_57 : decode cJ2_getChar_3b067 57 = .ok (.ior, 1) := by decide +kernel
theorem dJ2_getChar_3b067_58 : decode cJ2_getChar_3b067 58 = .ok (.i2c, 1) := by decide +kernel
theorem dJ2_getChar_3b067_59 : decode cJ2_getChar_3b067 59 = .ok (.ireturn, 1) := by decide +kernel
theorem dJ2_length_9d52b_0 : decode cJ2_length_9d52b 0 = .ok (.aload_n 0, 1) := by decide +kernel
theorem dJ2_length_9d52b_1 : decode cJ2_length_9d52b 1 = .ok (.arraylength, 1) := by decide +kernel
theorem dJ2_length_9d52b_2 : decode cJ2_length_9d52b 2 = .ok (.iconst 1, 1) := by decide +kernel
theorem dJ2_length_9d52b_3 : decode cJ2_length_9d52b 3 = .ok (.ishr, 1) := by decide +kernel
theorem dJ2_length_9d52b_4 : decode cJ2_length_9d52b 4 = .ok (.ireturn, 1) := by decide +kernel
theorem dJ2_indexOf_4cfef_0 : decode cJ2_indexOf_4cfef 0 = .ok (.iload_n 2, 1) := by decide +kernel
theorem dJ2_indexOf_4cfef_1 : decode cJ2_indexOf_4cfef 1 = .ok (.iconst 0, 1) := by decide +kernel
theorem dJ2_indexOf_4cfef_2 : decode cJ2_indexOf_4cfef 2 = .ok (.invokestatic 224, 3) := by decide +kernel
theorem dJ2_indexOf_4cfef_5 : decode cJ2_indexOf_4cfef 5 = .ok (.istore_n 2, 1) := by decide +kernel
theorem dJ2_indexOf_4cfef_6 : decode cJ2_indexOf_4cfef 6 = .ok (.iload_n 3, 1) := by decide +kernel
theorem dJ2_indexOf_4cfef_7 : decode cJ2_indexOf_4cfef 7 = .ok (.aload_n 0, 1) := by decide +kernel
theorem dJ2_indexOf_4cfef_8 : decode cJ2_indexOf_4cfef 8 = .ok (.arraylength, 1) := by decide +kernel
theorem dJ2_indexOf_4cfef_9 : decode cJ2_indexOf_4cfef 9 = .ok (.iconst 1, 1) := by decide +kernel
theorem dJ2_indexOf_4cfef_10 : decode cJ2_indexOf_4cfef 10 = .ok (.ishr, 1) := by decide +kernel
theorem dJ2_indexOf_4cfef_11 : decode cJ2_indexOf_4cfef 11 = .ok (.invokestatic 183, 3) := by decide +kernel
theorem dJ2_indexOf_4cfef_14 : decode cJ2_indexOf_4cfef 14 = .ok (.istore_n 3, 1) := by decide +kernel
theorem dJ2_indexOf_4cfef_15 : decode cJ2_indexOf_4cfef 15 = .ok (.iload_n 2, 1) := by decide +kernel
theorem dJ2_indexOf_4cfef_16 : decode cJ2_indexOf_4cfef 16 = .ok (.iload_n 3, 1) := by decide +kernel
theorem dJ2_indexOf_4cfef_17 : decode cJ2_indexOf_4cfef 17 = .ok (.if_icmp .lt 5, 3) := by decide +kernel
theorem dJ2_indexOf_4cfef_20 : decode cJ2_indexOf_4cfef 20 = .ok (.iconst (-1), 1) := by decide +kernel
theorem dJ2_indexOf_4cfef_21 : decode cJ2_indexOf_4cfef 21 = .ok (.ireturn, 1) := by decide +kernel
theorem dJ2_indexOf_4cfef_22 : decode cJ2_indexOf_4cfef 22 = .ok (.iload_n 1, 1) := by decide +kernel
theorem dJ2_indexOf_4cfef_23 : decode cJ2_indexOf_4cfef 23 = .ok (.ldc 227, 2) := by decide +kernel
theorem dJ2_indexOf_4cfef_25 : decode cJ2_indexOf_4cfef 25 = .ok (.if_icmp .ge 11, 3) := by decide +kernel
theorem dJ2_indexOf_4cfef_28 : decode cJ2_indexOf_4cfef 28 = .ok (.aload_n 0, 1) := by decide +kernel
theorem dJ2_indexOf_4cfef_29 : decode cJ2_indexOf_4cfef 29 = .ok (.iload_n 1, 1) := by decide +kernel
theorem dJ2_indexOf_4cfef_30 : decode cJ2_indexOf_4cfef 30 = .ok (.iload_n 2, 1) := by decide +kernel
theorem dJ2_indexOf_4cfef_31 : decode cJ2_indexOf_4cfef 31 = .ok (.iload_n 3, 1) := by decide +kernel
theorem dJ2_indexOf_4cfef_32 : decode cJ2_indexOf_4cfef 32 = .ok (.invokestatic 228, 3) := by decide +kernel
theorem dJ2_indexOf_4cfef_35 : decode cJ2_indexOf_4cfef 35 = .ok (.ireturn, 1) := by decide +kernel
theorem dJ2_indexOf_4cfef_36 : decode cJ2_indexOf_4cfef 36 = .ok (.aload_n 0, 1) := by decide +kernel
theorem dJ2_indexOf_4cfef_37 : decode cJ2_indexOf_4cfef 37 = .ok (.iload_n 1, 1) := by decide +kernel
theorem dJ2_indexOf_4cfef_38 : decode cJ2_indexOf_4cfef 38 = .ok (.iload_n 2, 1) := by decide +kernel
theorem dJ2_indexOf_4cfef_39 : decode cJ2_indexOf_4cfef 39 = .ok (.iload_n 3, 1) := by decide +kernel
theorem dJ2_indexOf_4cfef_40 : decode cJ2_indexOf_4cfef 40 = .ok (.invokestatic 232, 3) := by decide +kernel
theorem dJ2_indexOf_4cfef_43 : decode cJ2_indexOf_4cfef 43 = .ok (.ireturn, 1) := by decide +kernel
theorem dJ2_indexOfChar_4cfef_0 : decode cJ2_indexOfChar_4cfef 0 = .ok (.iload_n 2, 1) := by decide +kernel
theorem dJ2_indexOfChar_4cfef_1 : decode cJ2_indexOfChar_4cfef 1 = .ok (.iload_n 3, 1) := by decide +kernel
theorem dJ2_indexOfChar_4cfef_2 : decode cJ2_indexOfChar_4cfef 2 = .ok (.aload_n 0, 1) := by decide +kernel
theorem dJ2_indexOfChar_4cfef_3 : decode cJ2_indexOfChar_4cfef 3 = .ok (.invokestatic 96, 3) := by decide +kernel
theorem dJ2_indexOfChar_4cfef_6 : decode cJ2_indexOfChar_4cfef 6 = .ok (.aload_n 0, 1) := by decide +kernel
theorem dJ2_indexOfChar_4cfef_7 : decode cJ2_indexOfChar_4cfef 7 = .ok (.iload_n 1, 1) := by decide +kernel
theorem dJ2_indexOfChar_4cfef_8 : decode cJ2_indexOfChar_4cfef 8 = .ok (.iload_n 2, 1) := by decide +kernel
theorem dJ2_indexOfChar_4cfef_9 : decode cJ2_indexOfChar_4cfef 9 = .ok (.iload_n 3, 1) := by decide +kernel
theorem dJ2_indexOfChar_4cfef_10 : decode cJ2_indexOfChar_4cfef 10 = .ok (.invokestatic 244, 3) := by decide +kernel
theorem dJ2_indexOfChar_4cfef_13 : decode cJ2_indexOfChar_4cfef 13 = .ok (.ireturn, 1) := by decide +kernel
theorem dJ2_indexOfCharUnsafe_4cfef_0 : decode cJ2_indexOfCharUnsafe_4cfef 0 = .ok (.iload_n 2, 1) := by decide +kernel
theorem dJ2_indexOfCharUnsafe_4cfef_1 : decode cJ2_indexOfCharUnsafe_4cfef 1 = .ok (.istore 4, 2) := by decide +kernel
theorem dJ2_indexOfCharUnsafe_4cfef_3 : decode cJ2_indexOfCharUnsafe_4cfef 3 = .ok (.iload 4, 2) := by decide +kernel
theorem dJ2_indexOfCharUnsafe_4cfef_5 : decode cJ2_indexOfCharUnsafe_4cfef 5 = .ok (.iload_n 3, 1) := by decide +kernel
theorem dJ2_indexOfCharUnsafe_4cfef_6 : decode cJ2_indexOfCharUnsafe_4cfef 6 = .ok (.if_icmp .ge 22, 3) := by decide +kernel
theorem dJ2_indexOfCharUnsafe_4cfef_9 : decode cJ2_indexOfCharUnsafe_4cfef 9 = .ok (.aload_n 0, 1) := by decide +kernel
theorem dJ2_indexOfCharUnsafe_4cfef_10 : decode cJ2_indexOfCharUnsafe_4cfef 10 = .ok (.iload 4, 2) := by decide +kernel
theorem dJ2_indexOfCharUnsafe_4cfef_12 : decode cJ2_indexOfCharUnsafe_4cfef 12 = .ok (.invokestatic 71, 3) := by decide +kernel
theorem dJ2_indexOfCharUnsafe_4cfef_15 : decode cJ2_indexOfCharUnsafe_4cfef 15 = .ok (.iload_n 1, 1) := by decide +kernel
theorem dJ2_indexOfCharUnsafe_4cfef_16 : decode cJ2_indexOfCharUnsafe_4cfef 16 = .ok (.if_icmp .ne 6, 3) := by decide +kernel
theorem dJ2_indexOfCharUnsafe_4cfef_19 : decode cJ2_indexOfCharUnsafe_4cfef 19 = .ok (.iload 4, 2) := by decide +kernel
theorem dJ2_indexOfCharUnsafe_4cfef_21 : decode cJ2_indexOfCharUnsafe_4cfef 21 = .ok (.ireturn, 1) := by decide +kernel
theorem dJ2_indexOfCharUnsafe_4cfef_22 : decode cJ2_indexOfCharUnsafe_4cfef 22 = .ok (.iinc 4 1, 3) := by decide +kernel
theorem dJ2_indexOfCharUnsafe_4cfef_25 : decode cJ2_indexOfCharUnsafe_4cfef 25 = .ok (.goto (-22), 3) := by decide +kernel
theorem dJ2_indexOfCharUnsafe_4cfef_28 : decode cJ2_indexOfCharUnsafe_4cfef 28 = .ok (.iconst (-1), 1) := by decide +kernel
theorem dJ2_indexOfCharUnsafe_4cfef_29 : decode cJ2_indexOfCharUnsafe_4cfef 29 = .ok (.ireturn, 1) := by decide +kernel
theorem dJ2_indexOfSupplementary_4cfef_0 : decode cJ2_indexOfSupplementary_4cfef 0 = .ok (.iload_n 1, 1) := by decide +kernel
theorem dJ2_indexOfSupplementary_4cfef_1 : decode cJ2_indexOfSupplementary_4cfef 1 = .ok (.invokestatic 164, 3) := by decide +kernel
theorem dJ2_indexOfSupplementary_4cfef_4 : decode cJ2_indexOfSupplementary_4cfef 4 = .ok (.ifCond .eq 65, 3) := by decide +kernel
theorem dJ2_indexOfSupplementary_4cfef_7 : decode cJ2_indexOfSupplementary_4cfef 7 = .ok (.iload_n 1, 1) := by decide +kernel
theorem dJ2_indexOfSupplementary_4cfef_8 : decode cJ2_indexOfSupplementary_4cfef 8 = .ok (.invokestatic 157, 3) := by decide +kernel
theorem dJ2_indexOfSupplementary_4cfef_11 : decode cJ2_indexOfSupplementary_4cfef 11 = .ok (.istore 4, 2) := by decide +kernel
theorem dJ2_indexOfSupplementary_4cfef_13 : decode cJ2_indexOfSupplementary_4cfef 13 = .ok (.iload_n 1, 1) := by decide +kernel
theorem dJ2_indexOfSupplementary_4cfef_14 : decode cJ2_indexOfSupplementary_4cfef 14 = .ok (.invokestatic 161, 3) := by decide +kernel
theorem dJ2_indexOfSupplementary_4cfef_17 : decode cJ2_indexOfSupplementary_4cfef 17 = .ok (.istore 5, 2) := by decide +kernel
theorem dJ2_indexOfSupplementary_4cfef_19 : decode cJ2_indexOfSupplementary_4cfef 19 = .ok (.iload_n 2, 1) := by decide +kernel
theorem dJ2_indexOfSupplementary_4cfef_20 : decode cJ2_indexOfSupplementary_4cfef 20 = .ok (.iload_n 3, 1) := by decide +kernel
theorem dJ2_indexOfSupplementary_4cfef_21 : decode cJ2_indexOfSupplementary_4cfef 21 = .ok (.aload_n 0, 1) := by decide +kernel
theorem dJ2_indexOfSupplementary_4cfef_22 : decode cJ2_indexOfSupplementary_4cfef 22 = .ok (.invokestatic 96, 3) := by decide +kernel
theorem dJ2_indexOfSupplementary_4cfef_25 : decode cJ2_indexOfSupplementary_4cfef 25 = .ok (.iload_n 2, 1) := by decide +kernel
theorem dJ2_indexOfSupplementary_4cfef_26 : decode cJ2_indexOfSupplementary_4cfef 26 = .ok (.istore 6, 2) := by decide +kernel
theorem dJ2_indexOfSupplementary_4cfef_28 : decode cJ2_indexOfSupplementary_4cfef 28 = .ok (.iload 6, 2) := by decide +kernel
theorem dJ2_indexOfSupplementary_4cfef_30 : decode cJ2_indexOfSupplementary_4cfef 30 = .ok (.iload_n 3, 1) := by decide +kernel
theorem dJ2_indexOfSupplementary_4cfef_31 : decode cJ2_indexOfSupplementary_4cfef 31 = .ok (.iconst 1, 1) := by decide +kernel
theorem dJ2_indexOfSupplementary_4cfef_32 : decode cJ2_indexOfSupplementary_4cfef 32 = .ok (.isub, 1) := by decide +kernel
theorem dJ2_indexOfSupplementary_4cfef_33 : decode cJ2_indexOfSupplementary_4cfef 33 = .ok (.if_icmp .ge 36, 3) := by decide +kernel
theorem dJ2_indexOfSupplementary_4cfef_36 : decode cJ2_indexOfSupplementary_4cfef 36 = .ok (.aload_n 0, 1) := by decide +kernel
theorem dJ2_indexOfSupplementary_4cfef_37 : decode cJ2_indexOfSupplementary_4cfef 37 = .ok (.iload 6, 2) := by decide +kernel
theorem dJ2_indexOfSupplementary_4cfef_39 : decode cJ2_indexOfSupplementary_4cfef 39 = .ok (.invokestatic 71, 3) := by decide +kernel
theorem dJ2_indexOfSupplementary_4cfef_42 : decode cJ2_indexOfSupplementary_4cfef 42 = .ok (.iload 4, 2) := by decide +kernel
theorem dJ2_indexOfSupplementary_4cfef_44 : decode cJ2_indexOfSupplementary_4cfef 44 = .ok (.if_icmp .ne 19, 3) := by decide +kernel
theorem dJ2_indexOfSupplementary_4cfef_47 : decode cJ2_indexOfSupplementary_4cfef 47 = .ok (.aload_n 0, 1) := by decide +kernel
theorem dJ2_indexOfSupplementary_4cfef_48 : decode cJ2_indexOfSupplementary_4cfef 48 = .ok (.iload 6, 2) := by decide +kernel
theorem dJ2_indexOfSupplementary_4cfef_50 : decode cJ2_indexOfSupplementary_4cfef 50 = .ok (.iconst 1, 1) := by decide +kernel
theorem dJ2_indexOfSupplementary_4cfef_51 : decode cJ2_indexOfSupplementary_4cfef 51 = .ok (.iadd, 1) := by decide +kernel
theorem dJ2_indexOfSupplementary_4cfef_52 : decode cJ2_indexOfSupplementary_4cfef 52 = .ok (.invokestatic 71, 3) := by decide +kernel
theorem dJ2_indexOfSupplementary_4cfef_55 : decode cJ2_indexOfSupplementary_4cfef 55 = .ok (.iload 5, 2) := by decide +kernel
theorem dJ2_indexOfSupplementary_4cfef_57 : decode cJ2_indexOfSupplementary_4cfef 57 = .ok (.if_icmp .ne 6, 3) := by decide +kernel
theorem dJ2_indexOfSupplementary_4cfef_60 : decode cJ2_indexOfSupplementary_4cfef 60 = .ok (.iload 6, 2) := by decide +kernel
theorem dJ2_indexOfSupplementary_4cfef_62 : decode cJ2_indexOfSupplementary_4cfef 62 = .ok (.ireturn, 1) := by decide +kernel
theorem dJ2_indexOfSupplementary_4cfef_63 : decode cJ2_indexOfSupplementary_4cfef 63 = .ok (.iinc 6 1, 3) := by decide +kernel
theorem dJ2_indexOfSupplementary_4cfef_66 : decode cJ2_indexOfSupplementary_4cfef 66 = .ok (.goto (-38), 3) := by decide +kernel
theorem dJ2_indexOfSupplementary_4cfef_69 : decode cJ2_indexOfSupplementary_4cfef 69 = .ok (.iconst (-1), 1) := by decide +kernel
theorem dJ2_indexOfSupplementary_4cfef_70 : decode cJ2_indexOfSupplementary_4cfef 70 = .ok (.ireturn, 1) := by decide +kernel
theorem dJ2_charAt_3b067_0 : decode cJ2_charAt_3b067 0 = .ok (.iload_n 1, 1) := by decide +kernel
theorem dJ2_charAt_3b067_1 : decode cJ2_charAt_3b067 1 = .ok (.aload_n 0, 1) := by decide +kernel
theorem dJ2_charAt_3b067_2 : decode cJ2_charAt_3b067 2 = .ok (.invokestatic 67, 3) := by decide +kernel
theorem dJ2_charAt_3b067_5 : decode cJ2_charAt_3b067 5 = .ok (.aload_n 0, 1) := by decide +kernel
theorem dJ2_charAt_3b067_6 : decode cJ2_charAt_3b067 6 = .ok (.iload_n 1, 1) := by decide +kernel
theorem dJ2_charAt_3b067_7 : decode cJ2_charAt_3b067 7 = .ok (.invokestatic 71, 3) := by decide +kernel
theorem dJ2_charAt_3b067_10 : decode cJ2_charAt_3b067 10 = .ok (.ireturn, 1) := by decide +kernel
theorem dJ2_checkIndex_2214a_0 : decode cJ2_checkIndex_2214a 0 = .ok (.iload_n 0, 1) := by decide +kernel
theorem dJ2_checkIndex_2214a_1 : decode cJ2_checkIndex_2214a 1 = .ok (.aload_n 1, 1) := by decide +kernel
theorem dJ2_checkIndex_2214a_2 : decode cJ2_checkIndex_2214a 2 = .ok (.invokestatic 48, 3) := by decide +kernel
theorem dJ2_checkIndex_2214a_5 : decode cJ2_checkIndex_2214a 5 = .ok (.invokestatic 414, 3) := by decide +kernel
theorem dJ2_checkIndex_2214a_8 : decode cJ2_checkIndex_2214a 8 = .ok (.return_, 1) := by decide +kernel
theorem dJ2_checkBoundsBeginEnd_d044e_0 : decode cJ2_checkBoundsBeginEnd_d044e 0 = .ok (.iload_n 0, 1) := by decide +kernel
theorem dJ2_checkBoundsBeginEnd_d044e_1 : decode cJ2_checkBoundsBeginEnd_d044e 1 = .ok (.iload_n 1, 1) := by decide +kernel
theorem dJ2_checkBoundsBeginEnd_d044e_2 : decode cJ2_checkBoundsBeginEnd_d044e 2 = .ok (.aload_n 2, 1) := by decide +kernel
theorem dJ2_checkBoundsBeginEnd_d044e_3 : decode cJ2_checkBoundsBeginEnd_d044e 3 = .ok (.invokestatic 48, 3) := by decide +kernel
theorem dJ2_checkBoundsBeginEnd_d044e_6 : decode cJ2_checkBoundsBeginEnd_d044e 6 = .ok (.invokestatic 241, 3) := by decide +kernel
theorem dJ2_checkBoundsBeginEnd_d044e_9 : decode cJ2_checkBoundsBeginEnd_d044e 9 = .ok (.return_, 1) := by decide +kernel
theorem dJ7_fill_53178_0 : decode cJ7_fill_53178 0 = .ok (.iconst 0, 1) := by decide +kernel
theorem dJ7_fill_53178_1 : decode cJ7_fill_53178 1 = .ok (.istore_n 2, 1) := by decide +kernel
theorem dJ7_fill_53178_2 : decode cJ7_fill_53178 2 = .ok (.aload_n 0, 1) := by decide +kernel
theorem dJ7_fill_53178_3 : decode cJ7_fill_53178 3 = .ok (.arraylength, 1) := by decide +kernel
theorem dJ7_fill_53178_4 : decode cJ7_fill_53178 4 = .ok (.istore_n 3, 1) := by decide +kernel
theorem dJ7_fill_53178_5 : decode cJ7_fill_53178 5 = .ok (.iload_n 2, 1) := by decide +kernel
theorem dJ7_fill_53178_6 : decode cJ7_fill_53178 6 = .ok (.iload_n 3, 1) := by decide +kernel
theorem dJ7_fill_53178_7 : decode cJ7_fill_53178 7 = .ok (.if_icmp .ge 13, 3) := by decide +kernel
theorem dJ7_fill_53178_10 : decode cJ7_fill_53178 10 = .ok (.aload_n 0, 1) := by decide +kernel
theorem dJ7_fill_53178_11 : decode cJ7_fill_53178 11 = .ok (.iload_n 2, 1) := by decide +kernel
theorem dJ7_fill_53178_12 : decode cJ7_fill_53178 12 = .ok (.iload_n 1, 1) := by decide +kernel
theorem dJ7_fill_53178_13 : decode cJ7_fill_53178 13 = .ok (.iastore, 1) := by decide +kernel
theorem dJ7_fill_53178_14 : decode cJ7_fill_53178 14 = .ok (.iinc 2 1, 3) := by decide +kernel
theorem dJ7_fill_53178_17 : decode cJ7_fill_53178 17 = .ok (.goto (-12), 3) := by decide +kernel
theorem dJ7_fill_53178_20 : decode cJ7_fill_53178 20 = .ok (.return_, 1) := by decide +kernel
theorem dJ7_copyOf_59c91_0 : decode cJ7_copyOf_59c91 0 = .ok (.iload_n 1, 1) := by decide +kernel
theorem dJ7_copyOf_59c91_1 : decode cJ7_copyOf_59c91 1 = .ok (.aload_n 0, 1) := by decide +kernel
theorem dJ7_copyOf_59c91_2 : decode cJ7_copyOf_59c91 2 = .ok (.arraylength, 1) := by decide +kernel
theorem dJ7_copyOf_59c91_3 : decode cJ7_copyOf_59c91 3 = .ok (.if_icmp .ne 11, 3) := by decide +kernel
theorem dJ7_copyOf_59c91_6 : decode cJ7_copyOf_59c91 6 = .ok (.aload_n 0, 1) := by decide +kernel
theorem dJ7_copyOf_59c91_7 : decode cJ7_copyOf_59c91 7 = .ok (.invokevirtual 316, 3) := by decide +kernel
theorem dJ7_copyOf_59c91_10 : decode cJ7_copyOf_59c91 10 = .ok (.checkcast 317, 3) := by decide +kernel
theorem dJ7_copyOf_59c91_13 : decode cJ7_copyOf_59c91 13 = .ok (.areturn, 1) := by decide +kernel
theorem dJ7_copyOf_59c91_14 : decode cJ7_copyOf_59c91 14 = .ok (.iload_n 1, 1) := by decide +kernel
theorem dJ7_copyOf_59c91_15 : decode cJ7_copyOf_59c91 15 = .ok (.newarray .int, 2) := by decide +kernel
theorem dJ7_copyOf_59c91_17 : decode cJ7_copyOf_59c91 17 = .ok (.astore_n 2, 1) := by decide +kernel
theorem dJ7_copyOf_59c91_18 : decode cJ7_copyOf_59c91 18 = .ok (.aload_n 0, 1) := by decide +kernel
theorem dJ7_copyOf_59c91_19 : decode cJ7_copyOf_59c91 19 = .ok (.iconst 0, 1) := by decide +kernel
theorem dJ7_copyOf_59c91_20 : decode cJ7_copyOf_59c91 20 = .ok (.aload_n 2, 1) := by decide +kernel
theorem dJ7_copyOf_59c91_21 : decode cJ7_copyOf_59c91 21 = .ok (.iconst 0, 1) := by decide +kernel
theorem dJ7_copyOf_59c91_22 : decode cJ7_copyOf_59c91 22 = .ok (.aload_n 0, 1) := by decide +kernel
theorem dJ7_copyOf_59c91_23 : decode cJ7_copyOf_59c91 23 = .ok (.arraylength, 1) := by decide +kernel
theorem dJ7_copyOf_59c91_24 : decode cJ7_copyOf_59c91 24 = .ok (.iload_n 1, 1) := by decide +kernel
theorem dJ7_copyOf_59c91_25 : decode cJ7_copyOf_59c91 25 = .ok (.invokestatic 304, 3) := by decide +kernel
theorem dJ7_copyOf_59c91_28 : decode cJ7_copyOf_59c91 28 = .ok (.invokestatic 150, 3) := by decide +kernel
theorem dJ7_copyOf_59c91_31 : decode cJ7_copyOf_59c91 31 = .ok (.aload_n 2, 1) := by decide +kernel
theorem dJ7_copyOf_59c91_32 : decode cJ7_copyOf_59c91 32 = .ok (.areturn, 1) := by decide +kernel
theorem dJ3_checkIndex_8e157_0 : decode cJ3_checkIndex_8e157 0 = .ok (.iload_n 0, 1) := by decide +kernel
theorem dJ3_checkIndex_8e157_1 : decode cJ3_checkIndex_8e157 1 = .ok (.ifCond .lt 8, 3) := by decide +kernel
theorem dJ3_checkIndex_8e157_4 : decode cJ3_checkIndex_8e157 4 = .ok (.iload_n 0, 1) := by decide +kernel
theorem dJ3_checkIndex_8e157_5 : decode cJ3_checkIndex_8e157 5 = .ok (.iload_n 1, 1) := by decide +kernel
theorem dJ3_checkIndex_8e157_6 : decode cJ3_checkIndex_8e157 6 = .ok (.if_icmp .lt 10, 3) := by decide +kernel
theorem dJ3_checkIndex_8e157_9 : decode cJ3_checkIndex_8e157 9 = .ok (.aload_n 2, 1) := by decide +kernel
theorem dJ3_checkIndex_8e157_10 : decode cJ3_checkIndex_8e157 10 = .ok (.iload_n 0, 1) := by decide +kernel
theorem dJ3_checkIndex_8e157_11 : decode cJ3_checkIndex_8e157 11 = .ok (.iload_n 1, 1) := by decide +kernel
theorem dJ3_checkIndex_8e157_12 : decode cJ3_checkIndex_8e157 12 = .ok (.invokestatic 95, 3) := by decide +kernel
theorem dJ3_checkIndex_8e157_15 : decode cJ3_checkIndex_8e157 15 = .ok (.athrow, 1) := by decide +kernel
theorem dJ3_checkIndex_8e157_16 : decode cJ3_checkIndex_8e157 16 = .ok (.iload_n 0, 1) := by decide +kernel
theorem dJ3_checkIndex_8e157_17 : decode cJ3_checkIndex_8e157 17 = .ok (.ireturn, 1) := by decide +kernel
theorem dJ3_checkFromToIndex_8c36e_0 : decode cJ3_checkFromToIndex_8c36e 0 = .ok (.iload_n 0, 1) := by decide +kernel
theorem dJ3_checkFromToIndex_8c36e_1 : decode cJ3_checkFromToIndex_8c36e 1 = .ok (.ifCond .lt 13, 3) := by decide +kernel
theorem dJ3_checkFromToIndex_8c36e_4 : decode cJ3_checkFromToIndex_8c36e 4 = .ok (.iload_n 0, 1) := by decide +kernel
theorem dJ3_checkFromToIndex_8c36e_5 : decode cJ3_checkFromToIndex_8c36e 5 = .ok (.iload_n 1, 1) := by decide +kernel
theorem dJ3_checkFromToIndex_8c36e_6 : decode cJ3_checkFromToIndex_8c36e 6 = .ok (.if_icmp .gt 8, 3) := by decide +kernel
theorem dJ3_checkFromToIndex_8c36e_9 : decode cJ3_checkFromToIndex_8c36e 9 = .ok (.iload_n 1, 1) := by decide +kernel
theorem dJ3_checkFromToIndex_8c36e_10 : decode cJ3_checkFromToIndex_8c36e 10 = .ok (.iload_n 2, 1) := by decide +kernel
theorem dJ3_checkFromToIndex_8c36e_11 : decode cJ3_checkFromToIndex_8c36e 11 = .ok (.if_icmp .le 11, 3) := by decide +kernel
theorem dJ3_checkFromToIndex_8c36e_14 : decode cJ3_checkFromToIndex_8c36e 14 = .ok (.aload_n 3, 1) := by decide +kernel
theorem dJ3_checkFromToIndex_8c36e_15 : decode cJ3_checkFromToIndex_8c36e 15 = .ok (.iload_n 0, 1) := by decide +kernel
theorem dJ3_checkFromToIndex_8c36e_16 : decode cJ3_checkFromToIndex_8c36e 16 = .ok (.iload_n 1, 1) := by decide +kernel
theorem dJ3_checkFromToIndex_8c36e_17 : decode cJ3_checkFromToIndex_8c36e 17 = .ok (.iload_n 2, 1) := by decide +kernel
theorem dJ3_checkFromToIndex_8c36e_18 : decode cJ3_checkFromToIndex_8c36e 18 = .ok (.invokestatic 99, 3) := by decide +kernel
theorem dJ3_checkFromToIndex_8c36e_21 : decode cJ3_checkFromToIndex_8c36e 21 = .ok (.athrow, 1) := by decide +kernel
theorem dJ3_checkFromToIndex_8c36e_22 : decode cJ3_checkFromToIndex_8c36e 22 = .ok (.iload_n 0, 1) := by decide +kernel
theorem dJ3_checkFromToIndex_8c36e_23 : decode cJ3_checkFromToIndex_8c36e 23 = .ok (.ireturn, 1) := by decide +kernel
