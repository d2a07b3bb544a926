theorem dX0_init_0 : decode cX0_init 0 = .ok (.aload_n 0, 1) := by decide +kernel
theorem dX0_init_1 : decode cX0_init 1 = .ok (.invokespecial 5, 3) := by decide +kernel
theorem dX0_init_4 : decode cX0_init 4 = .ok (.aload_n 0, 1) := by decide +kernel
theorem dX0_init_5 : decode cX0_init 5 = .ok (.sipush 4096, 3) := by decide +kernel
theorem dX0_init_8 : decode cX0_init 8 = .ok (.newarray .int, 2) := by decide +kernel
theorem dX0_init_10 : decode cX0_init 10 = .ok (.putfield 11, 3) := by decide +kernel
theorem dX0_init_13 : decode cX0_init 13 = .ok (.aload_n 0, 1) := by decide +kernel
theorem dX0_init_14 : decode cX0_init 14 = .ok (.bipush 32, 2) := by decide +kernel
theorem dX0_init_16 : decode cX0_init 16 = .ok (.newarray .int, 2) := by decide +kernel
theorem dX0_init_18 : decode cX0_init 18 = .ok (.putfield 15, 3) := by decide +kernel
theorem dX0_init_21 : decode cX0_init 21 = .ok (.return_, 1) := by decide +kernel
theorem dX0_hold_0 : decode cX0_hold 0 = .ok (.iload_n 1, 1) := by decide +kernel
theorem dX0_hold_1 : decode cX0_hold 1 = .ok (.ifCond .lt 16, 3) := by decide +kernel
theorem dX0_hold_4 : decode cX0_hold 4 = .ok (.iload_n 1, 1) := by decide +kernel
theorem dX0_hold_5 : decode cX0_hold 5 = .ok (.sipush 16384, 3) := by decide +kernel
theorem dX0_hold_8 : decode cX0_hold 8 = .ok (.if_icmp .ge 9, 3) := by decide +kernel
theorem dX0_hold_11 : decode cX0_hold 11 = .ok (.iload_n 1, 1) := by decide +kernel
theorem dX0_hold_12 : decode cX0_hold 12 = .ok (.iconst 3, 1) := by decide +kernel
theorem dX0_hold_13 : decode cX0_hold 13 = .ok (.iand, 1) := by decide +kernel
theorem dX0_hold_14 : decode cX0_hold 14 = .ok (.ifCond .eq 5, 3) := by decide +kernel
theorem dX0_hold_17 : decode cX0_hold 17 = .ok (.iconst 0, 1) := by decide +kernel
theorem dX0_hold_18 : decode cX0_hold 18 = .ok (.ireturn, 1) := by decide +kernel
theorem dX0_hold_19 : decode cX0_hold 19 = .ok (.aload_n 0, 1) := by decide +kernel
theorem dX0_hold_20 : decode cX0_hold 20 = .ok (.getfield 11, 3) := by decide +kernel
theorem dX0_hold_23 : decode cX0_hold 23 = .ok (.iload_n 1, 1) := by decide +kernel
theorem dX0_hold_24 : decode cX0_hold 24 = .ok (.iconst 2, 1) := by decide +kernel
theorem dX0_hold_25 : decode cX0_hold 25 = .ok (.ishr, 1) := by decide +kernel
theorem dX0_hold_26 : decode cX0_hold 26 = .ok (.iload_n 2, 1) := by decide +kernel
theorem dX0_hold_27 : decode cX0_hold 27 = .ok (.iastore, 1) := by decide +kernel
theorem dX0_hold_28 : decode cX0_hold 28 = .ok (.iconst 1, 1) := by decide +kernel
theorem dX0_hold_29 : decode cX0_hold 29 = .ok (.ireturn, 1) := by decide +kernel
theorem dX0_change_0 : decode cX0_change 0 = .ok (.iload_n 1, 1) := by decide +kernel
theorem dX0_change_1 : decode cX0_change 1 = .ok (.iconst 1, 1) := by decide +kernel
theorem dX0_change_2 : decode cX0_change 2 = .ok (.if_icmp .lt 9, 3) := by decide +kernel
theorem dX0_change_5 : decode cX0_change 5 = .ok (.iload_n 1, 1) := by decide +kernel
theorem dX0_change_6 : decode cX0_change 6 = .ok (.bipush 32, 2) := by decide +kernel
theorem dX0_change_8 : decode cX0_change 8 = .ok (.if_icmp .le 5, 3) := by decide +kernel
theorem dX0_change_11 : decode cX0_change 11 = .ok (.iconst 0, 1) := by decide +kernel
theorem dX0_change_12 : decode cX0_change 12 = .ok (.ireturn, 1) := by decide +kernel
theorem dX0_change_13 : decode cX0_change 13 = .ok (.iload_n 1, 1) := by decide +kernel
theorem dX0_change_14 : decode cX0_change 14 = .ok (.bipush 32, 2) := by decide +kernel
theorem dX0_change_16 : decode cX0_change 16 = .ok (.if_icmp .ne 11, 3) := by decide +kernel
theorem dX0_change_19 : decode cX0_change 19 = .ok (.aload_n 0, 1) := by decide +kernel
theorem dX0_change_20 : decode cX0_change 20 = .ok (.iload_n 2, 1) := by decide +kernel
theorem dX0_change_21 : decode cX0_change 21 = .ok (.putfield 18, 3) := by decide +kernel
theorem dX0_change_24 : decode cX0_change 24 = .ok (.goto 10, 3) := by decide +kernel
theorem dX0_change_27 : decode cX0_change 27 = .ok (.aload_n 0, 1) := by decide +kernel
theorem dX0_change_28 : decode cX0_change 28 = .ok (.iload_n 1, 1) := by decide +kernel
theorem dX0_change_29 : decode cX0_change 29 = .ok (.iload_n 2, 1) := by decide +kernel
theorem dX0_change_30 : decode cX0_change 30 = .ok (.invokevirtual 22, 3) := by decide +kernel
theorem dX0_change_33 : decode cX0_change 33 = .ok (.pop, 1) := by decide +kernel
theorem dX0_change_34 : decode cX0_change 34 = .ok (.iconst 1, 1) := by decide +kernel
theorem dX0_change_35 : decode cX0_change 35 = .ok (.ireturn, 1) := by decide +kernel
theorem dX0_shown_0 : decode cX0_shown 0 = .ok (.iload_n 1, 1) := by decide +kernel
theorem dX0_shown_1 : decode cX0_shown 1 = .ok (.ifCond .lt 16, 3) := by decide +kernel
theorem dX0_shown_4 : decode cX0_shown 4 = .ok (.iload_n 1, 1) := by decide +kernel
theorem dX0_shown_5 : decode cX0_shown 5 = .ok (.bipush 32, 2) := by decide +kernel
theorem dX0_shown_7 : decode cX0_shown 7 = .ok (.if_icmp .ge 10, 3) := by decide +kernel
theorem dX0_shown_10 : decode cX0_shown 10 = .ok (.aload_n 0, 1) := by decide +kernel
theorem dX0_shown_11 : decode cX0_shown 11 = .ok (.getfield 15, 3) := by decide +kernel
theorem dX0_shown_14 : decode cX0_shown 14 = .ok (.iload_n 1, 1) := by decide +kernel
theorem dX0_shown_15 : decode cX0_shown 15 = .ok (.iaload, 1) := by decide +kernel
theorem dX0_shown_16 : decode cX0_shown 16 = .ok (.ireturn, 1) := by decide +kernel
theorem dX0_shown_17 : decode cX0_shown 17 = .ok (.iload_n 1, 1) := by decide +kernel
theorem dX0_shown_18 : decode cX0_shown 18 = .ok (.bipush 32, 2) := by decide +kernel
theorem dX0_shown_20 : decode cX0_shown 20 = .ok (.if_icmp .ne 8, 3) := by decide +kernel
theorem dX0_shown_23 : decode cX0_shown 23 = .ok (.aload_n 0, 1) := by decide +kernel
theorem dX0_shown_24 : decode cX0_shown 24 = .ok (.getfield 18, 3) := by decide +kernel
theorem dX0_shown_27 : decode cX0_shown 27 = .ok (.ireturn, 1) := by decide +kernel
theorem dX0_shown_28 : decode cX0_shown 28 = .ok (.iload_n 1, 1) := by decide +kernel
theorem dX0_shown_29 : decode cX0_shown 29 = .ok (.bipush 33, 2) := by decide +kernel
theorem dX0_shown_31 : decode cX0_shown 31 = .ok (.if_icmp .ne 8, 3) := by decide +kernel
theorem dX0_shown_34 : decode cX0_shown 34 = .ok (.aload_n 0, 1) := by decide +kernel
theorem dX0_shown_35 : decode cX0_shown 35 = .ok (.getfield 26, 3) := by decide +kernel
theorem dX0_shown_38 : decode cX0_shown 38 = .ok (.ireturn, 1) := by decide +kernel
theorem dX0_shown_39 : decode cX0_shown 39 = .ok (.iload_n 1, 1) := by decide +kernel
theorem dX0_shown_40 : decode cX0_shown 40 = .ok (.bipush 100, 2) := by decide +kernel
theorem dX0_shown_42 : decode cX0_shown 42 = .ok (.if_icmp .lt 22, 3) := by decide +kernel
theorem dX0_shown_45 : decode cX0_shown 45 = .ok (.iload_n 1, 1) := by decide +kernel
theorem dX0_shown_46 : decode cX0_shown 46 = .ok (.sipush 4196, 3) := by decide +kernel
theorem dX0_shown_49 : decode cX0_shown 49 = .ok (.if_icmp .ge 15, 3) := by decide +kernel
theorem dX0_shown_52 : decode cX0_shown 52 = .ok (.aload_n 0, 1) := by decide +kernel
theorem dX0_shown_53 : decode cX0_shown 53 = .ok (.getfield 11, 3) := by decide +kernel
theorem dX0_shown_56 : decode cX0_shown 56 = .ok (.iload_n 1, 1) := by decide +kernel
theorem dX0_shown_57 : decode cX0_shown 57 = .ok (.bipush 100, 2) := by decide +kernel
theorem dX0_shown_59 : decode cX0_shown 59 = .ok (.isub, 1) := by decide +kernel
theorem dX0_shown_60 : decode cX0_shown 60 = .ok (.iaload, 1) := by decide +kernel
theorem dX0_shown_61 : decode cX0_shown 61 = .ok (.goto 4, 3) := by decide +kernel
theorem dX0_shown_64 : decode cX0_shown 64 = .ok (.iconst (-1), 1) := by decide +kernel
theorem dX0_shown_65 : decode cX0_shown 65 = .ok (.ireturn, 1) := by decide +kernel
theorem dX0_doWords_0 : decode cX0_doWords 0 = .ok (.iconst 0, 1) := by decide +kernel
theorem dX0_doWords_1 : decode cX0_doWords 1 = .ok (.istore_n 2, 1) := by decide +kernel
theorem dX0_doWords_2 : decode cX0_doWords 2 = .ok (.iconst 0, 1) := by decide +kernel
theorem dX0_doWords_3 : decode cX0_doWords 3 = .ok (.istore_n 3, 1) := by decide +kernel
theorem dX0_doWords_4 : decode cX0_doWords 4 = .ok (.iload_n 3, 1) := by decide +kernel
theorem dX0_doWords_5 : decode cX0_doWords 5 = .ok (.iload_n 1, 1) := by decide +kernel
theorem dX0_doWords_6 : decode cX0_doWords 6 = .ok (.if_icmp .ge 18, 3) := by decide +kernel
theorem dX0_doWords_9 : decode cX0_doWords 9 = .ok (.iload_n 2, 1) := by decide +kernel
theorem dX0_doWords_10 : decode cX0_doWords 10 = .ok (.ifCond .ne 14, 3) := by decide +kernel
theorem dX0_doWords_13 : decode cX0_doWords 13 = .ok (.aload_n 0, 1) := by decide +kernel
theorem dX0_doWords_14 : decode cX0_doWords 14 = .ok (.invokevirtual 29, 3) := by decide +kernel
theorem dX0_doWords_17 : decode cX0_doWords 17 = .ok (.istore_n 2, 1) := by decide +kernel
theorem dX0_doWords_18 : decode cX0_doWords 18 = .ok (.iinc 3 1, 3) := by decide +kernel
theorem dX0_doWords_21 : decode cX0_doWords 21 = .ok (.goto (-17), 3) := by decide +kernel
theorem dX0_doWords_24 : decode cX0_doWords 24 = .ok (.iload_n 2, 1) := by decide +kernel
theorem dX0_doWords_25 : decode cX0_doWords 25 = .ok (.ireturn, 1) := by decide +kernel
theorem dX0_doWord_0 : decode cX0_doWord 0 = .ok (.aload_n 0, 1) := by decide +kernel
theorem dX0_doWord_1 : decode cX0_doWord 1 = .ok (.getfield 18, 3) := by decide +kernel
theorem dX0_doWord_4 : decode cX0_doWord 4 = .ok (.iconst 3, 1) := by decide +kernel
theorem dX0_doWord_5 : decode cX0_doWord 5 = .ok (.iand, 1) := by decide +kernel
theorem dX0_doWord_6 : decode cX0_doWord 6 = .ok (.ifCond .ne 20, 3) := by decide +kernel
theorem dX0_doWord_9 : decode cX0_doWord 9 = .ok (.aload_n 0, 1) := by decide +kernel
theorem dX0_doWord_10 : decode cX0_doWord 10 = .ok (.getfield 18, 3) := by decide +kernel
theorem dX0_doWord_13 : decode cX0_doWord 13 = .ok (.ifCond .lt 13, 3) := by decide +kernel
theorem dX0_doWord_16 : decode cX0_doWord 16 = .ok (.aload_n 0, 1) := by decide +kernel
theorem dX0_doWord_17 : decode cX0_doWord 17 = .ok (.getfield 18, 3) := by decide +kernel
theorem dX0_doWord_20 : decode cX0_doWord 20 = .ok (.sipush 16384, 3) := by decide +kernel
theorem dX0_doWord_23 : decode cX0_doWord 23 = .ok (.if_icmp .lt 5, 3) := by decide +kernel
theorem dX0_doWord_28 : decode cX0_doWord 28 = .ok (.aload_n 0, 1) := by decide +kernel
theorem dX0_doWord_29 : decode cX0_doWord 29 = .ok (.getfield 11, 3) := by decide +kernel
theorem dX0_doWord_32 : decode cX0_doWord 32 = .ok (.aload_n 0, 1) := by decide +kernel
theorem dX0_doWord_33 : decode cX0_doWord 33 = .ok (.getfield 18, 3) := by decide +kernel
theorem dX0_doWord_36 : decode cX0_doWord 36 = .ok (.iconst 2, 1) := by decide +kernel
theorem dX0_doWord_37 : decode cX0_doWord 37 = .ok (.ishr, 1) := by decide +kernel
theorem dX0_doWord_38 : decode cX0_doWord 38 = .ok (.iaload, 1) := by decide +kernel
theorem dX0_doWord_39 : decode cX0_doWord 39 = .ok (.istore_n 1, 1) := by decide +kernel
theorem dX0_doWord_40 : decode cX0_doWord 40 = .ok (.aload_n 0, 1) := by decide +kernel
theorem dX0_doWord_41 : decode cX0_doWord 41 = .ok (.aload_n 0, 1) := by decide +kernel
theorem dX0_doWord_42 : decode cX0_doWord 42 = .ok (.getfield 18, 3) := by decide +kernel
theorem dX0_doWord_45 : decode cX0_doWord 45 = .ok (.iconst 4, 1) := by decide +kernel
theorem dX0_doWord_46 : decode cX0_doWord 46 = .ok (.iadd, 1) := by decide +kernel
theorem dX0_doWord_47 : decode cX0_doWord 47 = .ok (.putfield 33, 3) := by decide +kernel
theorem dX0_doWord_50 : decode cX0_doWord 50 = .ok (.aload_n 0, 1) := by decide +kernel
theorem dX0_doWord_51 : decode cX0_doWord 51 = .ok (.iload_n 1, 1) := by decide +kernel
theorem dX0_doWord_52 : decode cX0_doWord 52 = .ok (.invokevirtual 36, 3) := by decide +kernel
theorem dX0_doWord_55 : decode cX0_doWord 55 = .ok (.istore_n 2, 1) := by decide +kernel
theorem dX0_doWord_56 : decode cX0_doWord 56 = .ok (.iload_n 2, 1) := by decide +kernel
theorem dX0_doWord_57 : decode cX0_doWord 57 = .ok (.ifCond .eq 15, 3) := by decide +kernel
theorem dX0_doWord_60 : decode cX0_doWord 60 = .ok (.iload_n 2, 1) := by decide +kernel
theorem dX0_doWord_61 : decode cX0_doWord 61 = .ok (.bipush 6, 2) := by decide +kernel
theorem dX0_doWord_63 : decode cX0_doWord 63 = .ok (.if_icmp .eq 9, 3) := by decide +kernel
theorem dX0_doWord_66 : decode cX0_doWord 66 = .ok (.iload_n 2, 1) := by decide +kernel
theorem dX0_doWord_67 : decode cX0_doWord 67 = .ok (.bipush 7, 2) := by decide +kernel
theorem dX0_doWord_69 : decode cX0_doWord 69 = .ok (.if_icmp .ne 21, 3) := by decide +kernel
theorem dX0_doWord_90 : decode cX0_doWord 90 = .ok (.iload_n 2, 1) := by decide +kernel
theorem dX0_doWord_91 : decode cX0_doWord 91 = .ok (.ireturn, 1) := by decide +kernel
theorem dX0_does_0 : decode cX0_does 0 = .ok (.iload_n 1, 1) := by decide +kernel
theorem dX0_does_1 : decode cX0_does 1 = .ok (.bipush 127, 2) := by decide +kernel
theorem dX0_does_3 : decode cX0_does 3 = .ok (.iand, 1) := by decide +kernel
theorem dX0_does_4 : decode cX0_does 4 = .ok (.lookupswitch 246 #[(3, 206), (15, 230), (19, 218), (23, 109), (35, 212), (51, 224), (55, 92), (99, 200), (103, 152), (111, 131)], 92) := by decide +kernel
theorem dX0_does_250 : decode cX0_does 250 = .ok (.iload_n 1, 1) := by decide +kernel
theorem dX0_does_251 : decode cX0_does 251 = .ok (.bipush 115, 2) := by decide +kernel
theorem dX0_does_253 : decode cX0_does 253 = .ok (.if_icmp .ne 8, 3) := by decide +kernel
theorem dX0_does_261 : decode cX0_does 261 = .ok (.iload_n 1, 1) := by decide +kernel
theorem dX0_does_262 : decode cX0_does 262 = .ok (.ldc 61, 2) := by decide +kernel
theorem dX0_does_264 : decode cX0_does 264 = .ok (.if_icmp .ne 8, 3) := by decide +kernel
theorem dX0_does_272 : decode cX0_does 272 = .ok (.iconst 2, 1) := by decide +kernel
theorem dX0_does_273 : decode cX0_does 273 = .ok (.ireturn, 1) := by decide +kernel
theorem dX0_keep_0 : decode cX0_keep 0 = .ok (.iload_n 1, 1) := by decide +kernel
theorem dX0_keep_1 : decode cX0_keep 1 = .ok (.ifCond .le 16, 3) := by decide +kernel
theorem dX0_keep_4 : decode cX0_keep 4 = .ok (.iload_n 1, 1) := by decide +kernel
theorem dX0_keep_5 : decode cX0_keep 5 = .ok (.bipush 32, 2) := by decide +kernel
theorem dX0_keep_7 : decode cX0_keep 7 = .ok (.if_icmp .ge 10, 3) := by decide +kernel
theorem dX0_keep_10 : decode cX0_keep 10 = .ok (.aload_n 0, 1) := by decide +kernel
theorem dX0_keep_11 : decode cX0_keep 11 = .ok (.getfield 15, 3) := by decide +kernel
theorem dX0_keep_14 : decode cX0_keep 14 = .ok (.iload_n 1, 1) := by decide +kernel
theorem dX0_keep_15 : decode cX0_keep 15 = .ok (.iload_n 2, 1) := by decide +kernel
theorem dX0_keep_16 : decode cX0_keep 16 = .ok (.iastore, 1) := by decide +kernel
theorem dX0_keep_17 : decode cX0_keep 17 = .ok (.iconst 0, 1) := by decide +kernel
theorem dX0_keep_18 : decode cX0_keep 18 = .ok (.ireturn, 1) := by decide +kernel
theorem dX1_init_0 : decode cX1_init 0 = .ok (.aload_n 0, 1) := by decide +kernel
theorem dX1_init_1 : decode cX1_init 1 = .ok (.invokespecial 3, 3) := by decide +kernel
theorem dX1_init_4 : decode cX1_init 4 = .ok (.aload_n 0, 1) := by decide +kernel
theorem dX1_init_5 : decode cX1_init 5 = .ok (.sipush 8400, 3) := by decide +kernel
theorem dX1_init_8 : decode cX1_init 8 = .ok (.newarray .int, 2) := by decide +kernel
theorem dX1_init_10 : decode cX1_init 10 = .ok (.putfield 11, 3) := by decide +kernel
theorem dX1_init_13 : decode cX1_init 13 = .ok (.return_, 1) := by decide +kernel
theorem dX2_init_0 : decode cX2_init 0 = .ok (.aload_n 0, 1) := by decide +kernel
theorem dX2_init_1 : decode cX2_init 1 = .ok (.invokespecial 3, 3) := by decide +kernel
theorem dX2_init_4 : decode cX2_init 4 = .ok (.aload_n 0, 1) := by decide +kernel
theorem dX2_init_5 : decode cX2_init 5 = .ok (.aload_n 1, 1) := by decide +kernel
theorem dX2_init_6 : decode cX2_init 6 = .ok (.putfield 9, 3) := by decide +kernel
theorem dX2_init_9 : decode cX2_init 9 = .ok (.return_, 1) := by decide +kernel
theorem dX2_start_0 : decode cX2_start 0 = .ok (.aload_n 0, 1) := by decide +kernel
theorem dX2_start_1 : decode cX2_start 1 = .ok (.iconst 0, 1) := by decide +kernel
theorem dX2_start_2 : decode cX2_start 2 = .ok (.putfield 15, 3) := by decide +kernel
theorem dX2_start_5 : decode cX2_start 5 = .ok (.aload_n 0, 1) := by decide +kernel
theorem dX2_start_6 : decode cX2_start 6 = .ok (.iconst 0, 1) := by decide +kernel
theorem dX2_start_7 : decode cX2_start 7 = .ok (.putfield 19, 3) := by decide +kernel
theorem dX2_start_10 : decode cX2_start 10 = .ok (.aload_n 0, 1) := by decide +kernel
theorem dX2_start_11 : decode cX2_start 11 = .ok (.iconst 0, 1) := by decide +kernel
theorem dX2_start_12 : decode cX2_start 12 = .ok (.invokevirtual 22, 3) := by decide +kernel
theorem dX2_start_15 : decode cX2_start 15 = .ok (.return_, 1) := by decide +kernel
theorem dX2_comeTo_0 : decode cX2_comeTo 0 = .ok (.iload_n 1, 1) := by decide +kernel
theorem dX2_comeTo_1 : decode cX2_comeTo 1 = .ok (.ifCond .lt 14, 3) := by decide +kernel
theorem dX2_comeTo_4 : decode cX2_comeTo 4 = .ok (.iload_n 1, 1) := by decide +kernel
theorem dX2_comeTo_5 : decode cX2_comeTo 5 = .ok (.aload_n 0, 1) := by decide +kernel
theorem dX2_comeTo_6 : decode cX2_comeTo 6 = .ok (.getfield 9, 3) := by decide +kernel
theorem dX2_comeTo_9 : decode cX2_comeTo 9 = .ok (.getfield 37, 3) := by decide +kernel
theorem dX2_comeTo_12 : decode cX2_comeTo 12 = .ok (.if_icmp .lt 4, 3) := by decide +kernel
theorem dX2_comeTo_16 : decode cX2_comeTo 16 = .ok (.aload_n 0, 1) := by decide +kernel
theorem dX2_comeTo_17 : decode cX2_comeTo 17 = .ok (.iload_n 1, 1) := by decide +kernel
theorem dX2_comeTo_18 : decode cX2_comeTo 18 = .ok (.putfield 26, 3) := by decide +kernel
theorem dX2_comeTo_21 : decode cX2_comeTo 21 = .ok (.aload_n 0, 1) := by decide +kernel
theorem dX2_comeTo_22 : decode cX2_comeTo 22 = .ok (.aload_n 0, 1) := by decide +kernel
theorem dX2_comeTo_23 : decode cX2_comeTo 23 = .ok (.getfield 9, 3) := by decide +kernel
theorem dX2_comeTo_26 : decode cX2_comeTo 26 = .ok (.getfield 40, 3) := by decide +kernel
theorem dX2_comeTo_29 : decode cX2_comeTo 29 = .ok (.iload_n 1, 1) := by decide +kernel
theorem dX2_comeTo_30 : decode cX2_comeTo 30 = .ok (.iaload, 1) := by decide +kernel
theorem dX2_comeTo_31 : decode cX2_comeTo 31 = .ok (.putfield 35, 3) := by decide +kernel
theorem dX2_comeTo_34 : decode cX2_comeTo 34 = .ok (.aload_n 0, 1) := by decide +kernel
theorem dX2_comeTo_35 : decode cX2_comeTo 35 = .ok (.aload_n 0, 1) := by decide +kernel
theorem dX2_comeTo_36 : decode cX2_comeTo 36 = .ok (.getfield 9, 3) := by decide +kernel
theorem dX2_comeTo_39 : decode cX2_comeTo 39 = .ok (.getfield 44, 3) := by decide +kernel
theorem dX2_comeTo_42 : decode cX2_comeTo 42 = .ok (.iload_n 1, 1) := by decide +kernel
theorem dX2_comeTo_43 : decode cX2_comeTo 43 = .ok (.iaload, 1) := by decide +kernel
theorem dX2_comeTo_44 : decode cX2_comeTo 44 = .ok (.putfield 47, 3) := by decide +kernel
theorem dX2_comeTo_47 : decode cX2_comeTo 47 = .ok (.aload_n 0, 1) := by decide +kernel
theorem dX2_comeTo_48 : decode cX2_comeTo 48 = .ok (.aload_n 0, 1) := by decide +kernel
theorem dX2_comeTo_49 : decode cX2_comeTo 49 = .ok (.getfield 9, 3) := by decide +kernel
theorem dX2_comeTo_52 : decode cX2_comeTo 52 = .ok (.getfield 50, 3) := by decide +kernel
theorem dX2_comeTo_55 : decode cX2_comeTo 55 = .ok (.iload_n 1, 1) := by decide +kernel
theorem dX2_comeTo_56 : decode cX2_comeTo 56 = .ok (.iaload, 1) := by decide +kernel
theorem dX2_comeTo_57 : decode cX2_comeTo 57 = .ok (.putfield 53, 3) := by decide +kernel
theorem dX2_comeTo_60 : decode cX2_comeTo 60 = .ok (.aload_n 0, 1) := by decide +kernel
theorem dX2_comeTo_61 : decode cX2_comeTo 61 = .ok (.getfield 35, 3) := by decide +kernel
theorem dX2_comeTo_64 : decode cX2_comeTo 64 = .ok (.iconst 1, 1) := by decide +kernel
theorem dX2_comeTo_65 : decode cX2_comeTo 65 = .ok (.if_icmp .ne 22, 3) := by decide +kernel
theorem dX2_comeTo_87 : decode cX2_comeTo 87 = .ok (.return_, 1) := by decide +kernel
theorem dX3_init_0 : decode cX3_init 0 = .ok (.aload_n 0, 1) := by decide +kernel
theorem dX3_init_1 : decode cX3_init 1 = .ok (.invokespecial 3, 3) := by decide +kernel
theorem dX3_init_4 : decode cX3_init 4 = .ok (.aload_n 0, 1) := by decide +kernel
theorem dX3_init_5 : decode cX3_init 5 = .ok (.sipush 4001, 3) := by decide +kernel
theorem dX3_init_8 : decode cX3_init 8 = .ok (.newarray .int, 2) := by decide +kernel
theorem dX3_init_10 : decode cX3_init 10 = .ok (.putfield 9, 3) := by decide +kernel
theorem dX3_init_13 : decode cX3_init 13 = .ok (.aload_n 0, 1) := by decide +kernel
theorem dX3_init_14 : decode cX3_init 14 = .ok (.aload_n 1, 1) := by decide +kernel
theorem dX3_init_15 : decode cX3_init 15 = .ok (.putfield 15, 3) := by decide +kernel
theorem dX3_init_18 : decode cX3_init 18 = .ok (.aload_n 0, 1) := by decide +kernel
theorem dX3_init_19 : decode cX3_init 19 = .ok (.aload_n 2, 1) := by decide +kernel
theorem dX3_init_20 : decode cX3_init 20 = .ok (.putfield 19, 3) := by decide +kernel
theorem dX3_init_23 : decode cX3_init 23 = .ok (.aload_n 0, 1) := by decide +kernel
theorem dX3_init_24 : decode cX3_init 24 = .ok (.aload_n 3, 1) := by decide +kernel
theorem dX3_init_25 : decode cX3_init 25 = .ok (.putfield 23, 3) := by decide +kernel
theorem dX3_init_28 : decode cX3_init 28 = .ok (.aload_n 0, 1) := by decide +kernel
theorem dX3_init_29 : decode cX3_init 29 = .ok (.aload 4, 2) := by decide +kernel
theorem dX3_init_31 : decode cX3_init 31 = .ok (.putfield 27, 3) := by decide +kernel
theorem dX3_init_34 : decode cX3_init 34 = .ok (.aload_n 0, 1) := by decide +kernel
theorem dX3_init_35 : decode cX3_init 35 = .ok (.aload 5, 2) := by decide +kernel
theorem dX3_init_37 : decode cX3_init 37 = .ok (.putfield 31, 3) := by decide +kernel
theorem dX3_init_40 : decode cX3_init 40 = .ok (.return_, 1) := by decide +kernel
theorem dX3_start_0 : decode cX3_start 0 = .ok (.aload_n 0, 1) := by decide +kernel
theorem dX3_start_1 : decode cX3_start 1 = .ok (.iconst 0, 1) := by decide +kernel
theorem dX3_start_2 : decode cX3_start 2 = .ok (.putfield 35, 3) := by decide +kernel
theorem dX3_start_5 : decode cX3_start 5 = .ok (.return_, 1) := by decide +kernel
theorem dX4_init_0 : decode cX4_init 0 = .ok (.aload_n 0, 1) := by decide +kernel
theorem dX4_init_1 : decode cX4_init 1 = .ok (.invokespecial 3, 3) := by decide +kernel
theorem dX4_init_4 : decode cX4_init 4 = .ok (.aload_n 0, 1) := by decide +kernel
theorem dX4_init_5 : decode cX4_init 5 = .ok (.aload_n 1, 1) := by decide +kernel
theorem dX4_init_6 : decode cX4_init 6 = .ok (.putfield 9, 3) := by decide +kernel
theorem dX4_init_9 : decode cX4_init 9 = .ok (.aload_n 0, 1) := by decide +kernel
theorem dX4_init_10 : decode cX4_init 10 = .ok (.aload_n 2, 1) := by decide +kernel
theorem dX4_init_11 : decode cX4_init 11 = .ok (.putfield 15, 3) := by decide +kernel
theorem dX4_init_14 : decode cX4_init 14 = .ok (.aload_n 0, 1) := by decide +kernel
theorem dX4_init_15 : decode cX4_init 15 = .ok (.aload_n 3, 1) := by decide +kernel
theorem dX4_init_16 : decode cX4_init 16 = .ok (.putfield 19, 3) := by decide +kernel
theorem dX4_init_19 : decode cX4_init 19 = .ok (.aload_n 0, 1) := by decide +kernel
theorem dX4_init_20 : decode cX4_init 20 = .ok (.aload 4, 2) := by decide +kernel
theorem dX4_init_22 : decode cX4_init 22 = .ok (.putfield 23, 3) := by decide +kernel
theorem dX4_init_25 : decode cX4_init 25 = .ok (.aload_n 0, 1) := by decide +kernel
theorem dX4_init_26 : decode cX4_init 26 = .ok (.aload 5, 2) := by decide +kernel
theorem dX4_init_28 : decode cX4_init 28 = .ok (.putfield 27, 3) := by decide +kernel
theorem dX4_init_31 : decode cX4_init 31 = .ok (.return_, 1) := by decide +kernel
theorem dX4_clear_0 : decode cX4_clear 0 = .ok (.aload_n 0, 1) := by decide +kernel
theorem dX4_clear_1 : decode cX4_clear 1 = .ok (.iload_n 1, 1) := by decide +kernel
theorem dX4_clear_2 : decode cX4_clear 2 = .ok (.putfield 31, 3) := by decide +kernel
theorem dX4_clear_5 : decode cX4_clear 5 = .ok (.aload_n 0, 1) := by decide +kernel
theorem dX4_clear_6 : decode cX4_clear 6 = .ok (.getfield 23, 3) := by decide +kernel
theorem dX4_clear_9 : decode cX4_clear 9 = .ok (.invokevirtual 35, 3) := by decide +kernel
theorem dX4_clear_12 : decode cX4_clear 12 = .ok (.aload_n 0, 1) := by decide +kernel
theorem dX4_clear_13 : decode cX4_clear 13 = .ok (.getfield 15, 3) := by decide +kernel
theorem dX4_clear_16 : decode cX4_clear 16 = .ok (.invokevirtual 40, 3) := by decide +kernel
theorem dX4_clear_19 : decode cX4_clear 19 = .ok (.aload_n 0, 1) := by decide +kernel
theorem dX4_clear_20 : decode cX4_clear 20 = .ok (.getfield 19, 3) := by decide +kernel
theorem dX4_clear_23 : decode cX4_clear 23 = .ok (.iconst 0, 1) := by decide +kernel
theorem dX4_clear_24 : decode cX4_clear 24 = .ok (.putfield 43, 3) := by decide +kernel
theorem dX4_clear_27 : decode cX4_clear 27 = .ok (.return_, 1) := by decide +kernel
theorem dX4_walk_0 : decode cX4_walk 0 = .ok (.aload_n 0, 1) := by decide +kernel
theorem dX4_walk_1 : decode cX4_walk 1 = .ok (.iload_n 1, 1) := by decide +kernel
theorem dX4_walk_2 : decode cX4_walk 2 = .ok (.invokevirtual 48, 3) := by decide +kernel
theorem dX4_walk_5 : decode cX4_walk 5 = .ok (.iconst 0, 1) := by decide +kernel
theorem dX4_walk_6 : decode cX4_walk 6 = .ok (.istore_n 2, 1) := by decide +kernel
theorem dX4_walk_7 : decode cX4_walk 7 = .ok (.iload_n 2, 1) := by decide +kernel
theorem dX4_walk_8 : decode cX4_walk 8 = .ok (.sipush 4001, 3) := by decide +kernel
theorem dX4_walk_11 : decode cX4_walk 11 = .ok (.if_icmp .ge 240, 3) := by decide +kernel
theorem dX4_walk_14 : decode cX4_walk 14 = .ok (.aload_n 0, 1) := by decide +kernel
theorem dX4_walk_15 : decode cX4_walk 15 = .ok (.getfield 9, 3) := by decide +kernel
theorem dX4_walk_18 : decode cX4_walk 18 = .ok (.getfield 52, 3) := by decide +kernel
theorem dX4_walk_21 : decode cX4_walk 21 = .ok (.ifCond .eq 230, 3) := by decide +kernel
theorem dX4_walk_251 : decode cX4_walk 251 = .ok (.aload_n 0, 1) := by decide +kernel
theorem dX4_walk_252 : decode cX4_walk 252 = .ok (.getfield 23, 3) := by decide +kernel
theorem dX4_walk_255 : decode cX4_walk 255 = .ok (.getfield 101, 3) := by decide +kernel
theorem dX4_walk_258 : decode cX4_walk 258 = .ok (.iconst (-1), 1) := by decide +kernel
theorem dX4_walk_259 : decode cX4_walk 259 = .ok (.if_icmp .ne 19, 3) := by decide +kernel
theorem dX4_walk_262 : decode cX4_walk 262 = .ok (.aload_n 0, 1) := by decide +kernel
theorem dX4_walk_263 : decode cX4_walk 263 = .ok (.getfield 15, 3) := by decide +kernel
theorem dX4_walk_266 : decode cX4_walk 266 = .ok (.bipush 9, 2) := by decide +kernel
theorem dX4_walk_268 : decode cX4_walk 268 = .ok (.aload_n 0, 1) := by decide +kernel
theorem dX4_walk_269 : decode cX4_walk 269 = .ok (.getfield 9, 3) := by decide +kernel
theorem dX4_walk_272 : decode cX4_walk 272 = .ok (.getfield 67, 3) := by decide +kernel
theorem dX4_walk_275 : decode cX4_walk 275 = .ok (.invokevirtual 104, 3) := by decide +kernel
theorem dX4_walk_278 : decode cX4_walk 278 = .ok (.iload_n 1, 1) := by decide +kernel
theorem dX4_walk_279 : decode cX4_walk 279 = .ok (.ifCond .eq 13, 3) := by decide +kernel
theorem dX4_walk_282 : decode cX4_walk 282 = .ok (.aload_n 0, 1) := by decide +kernel
theorem dX4_walk_283 : decode cX4_walk 283 = .ok (.getfield 15, 3) := by decide +kernel
theorem dX4_walk_286 : decode cX4_walk 286 = .ok (.invokevirtual 107, 3) := by decide +kernel
theorem dX4_walk_289 : decode cX4_walk 289 = .ok (.goto 10, 3) := by decide +kernel
theorem dX4_walk_292 : decode cX4_walk 292 = .ok (.aload_n 0, 1) := by decide +kernel
theorem dX4_walk_293 : decode cX4_walk 293 = .ok (.getfield 9, 3) := by decide +kernel
theorem dX4_walk_296 : decode cX4_walk 296 = .ok (.getfield 111, 3) := by decide +kernel
theorem dX4_walk_299 : decode cX4_walk 299 = .ok (.ireturn, 1) := by decide +kernel
theorem dX4_start_0 : decode cX4_start 0 = .ok (.aload_n 0, 1) := by decide +kernel
theorem dX4_start_1 : decode cX4_start 1 = .ok (.iconst 0, 1) := by decide +kernel
theorem dX4_start_2 : decode cX4_start 2 = .ok (.putfield 113, 3) := by decide +kernel
theorem dX4_start_5 : decode cX4_start 5 = .ok (.aload_n 0, 1) := by decide +kernel
theorem dX4_start_6 : decode cX4_start 6 = .ok (.iconst 0, 1) := by decide +kernel
theorem dX4_start_7 : decode cX4_start 7 = .ok (.putfield 116, 3) := by decide +kernel
theorem dX4_start_10 : decode cX4_start 10 = .ok (.aload_n 0, 1) := by decide +kernel
theorem dX4_start_11 : decode cX4_start 11 = .ok (.iconst (-1), 1) := by decide +kernel
theorem dX4_start_12 : decode cX4_start 12 = .ok (.putfield 119, 3) := by decide +kernel
theorem dX4_start_15 : decode cX4_start 15 = .ok (.aload_n 0, 1) := by decide +kernel
theorem dX4_start_16 : decode cX4_start 16 = .ok (.iconst (-1), 1) := by decide +kernel
theorem dX4_start_17 : decode cX4_start 17 = .ok (.putfield 122, 3) := by decide +kernel
theorem dX4_start_20 : decode cX4_start 20 = .ok (.aload_n 0, 1) := by decide +kernel
theorem dX4_start_21 : decode cX4_start 21 = .ok (.getfield 15, 3) := by decide +kernel
theorem dX4_start_24 : decode cX4_start 24 = .ok (.iconst 0, 1) := by decide +kernel
theorem dX4_start_25 : decode cX4_start 25 = .ok (.putfield 125, 3) := by decide +kernel
theorem dX4_start_28 : decode cX4_start 28 = .ok (.aload_n 0, 1) := by decide +kernel
theorem dX4_start_29 : decode cX4_start 29 = .ok (.getfield 15, 3) := by decide +kernel
theorem dX4_start_32 : decode cX4_start 32 = .ok (.iload_n 1, 1) := by decide +kernel
theorem dX4_start_33 : decode cX4_start 33 = .ok (.putfield 128, 3) := by decide +kernel
theorem dX4_start_36 : decode cX4_start 36 = .ok (.aload_n 0, 1) := by decide +kernel
theorem dX4_start_37 : decode cX4_start 37 = .ok (.getfield 19, 3) := by decide +kernel
theorem dX4_start_40 : decode cX4_start 40 = .ok (.iload_n 1, 1) := by decide +kernel
theorem dX4_start_41 : decode cX4_start 41 = .ok (.putfield 132, 3) := by decide +kernel
theorem dX4_start_44 : decode cX4_start 44 = .ok (.aload_n 0, 1) := by decide +kernel
theorem dX4_start_45 : decode cX4_start 45 = .ok (.getfield 27, 3) := by decide +kernel
theorem dX4_start_48 : decode cX4_start 48 = .ok (.invokevirtual 133, 3) := by decide +kernel
theorem dX4_start_51 : decode cX4_start 51 = .ok (.aload_n 0, 1) := by decide +kernel
theorem dX4_start_52 : decode cX4_start 52 = .ok (.getfield 9, 3) := by decide +kernel
theorem dX4_start_55 : decode cX4_start 55 = .ok (.invokevirtual 137, 3) := by decide +kernel
theorem dX4_start_58 : decode cX4_start 58 = .ok (.return_, 1) := by decide +kernel
theorem dX5_init_0 : decode cX5_init 0 = .ok (.aload_n 0, 1) := by decide +kernel
theorem dX5_init_1 : decode cX5_init 1 = .ok (.invokespecial 3, 3) := by decide +kernel
theorem dX5_init_4 : decode cX5_init 4 = .ok (.aload_n 0, 1) := by decide +kernel
theorem dX5_init_5 : decode cX5_init 5 = .ok (.sipush 700, 3) := by decide +kernel
theorem dX5_init_8 : decode cX5_init 8 = .ok (.newarray .int, 2) := by decide +kernel
theorem dX5_init_10 : decode cX5_init 10 = .ok (.putfield 11, 3) := by decide +kernel
theorem dX5_init_13 : decode cX5_init 13 = .ok (.aload_n 0, 1) := by decide +kernel
theorem dX5_init_14 : decode cX5_init 14 = .ok (.sipush 700, 3) := by decide +kernel
theorem dX5_init_17 : decode cX5_init 17 = .ok (.newarray .int, 2) := by decide +kernel
theorem dX5_init_19 : decode cX5_init 19 = .ok (.putfield 15, 3) := by decide +kernel
theorem dX5_init_22 : decode cX5_init 22 = .ok (.aload_n 0, 1) := by decide +kernel
theorem dX5_init_23 : decode cX5_init 23 = .ok (.sipush 700, 3) := by decide +kernel
theorem dX5_init_26 : decode cX5_init 26 = .ok (.newarray .int, 2) := by decide +kernel
theorem dX5_init_28 : decode cX5_init 28 = .ok (.putfield 18, 3) := by decide +kernel
theorem dX5_init_31 : decode cX5_init 31 = .ok (.aload_n 0, 1) := by decide +kernel
theorem dX5_init_32 : decode cX5_init 32 = .ok (.sipush 700, 3) := by decide +kernel
theorem dX5_init_35 : decode cX5_init 35 = .ok (.newarray .int, 2) := by decide +kernel
theorem dX5_init_37 : decode cX5_init 37 = .ok (.putfield 21, 3) := by decide +kernel
theorem dX5_init_40 : decode cX5_init 40 = .ok (.aload_n 0, 1) := by decide +kernel
theorem dX5_init_41 : decode cX5_init 41 = .ok (.sipush 700, 3) := by decide +kernel
theorem dX5_init_44 : decode cX5_init 44 = .ok (.newarray .int, 2) := by decide +kernel
theorem dX5_init_46 : decode cX5_init 46 = .ok (.putfield 24, 3) := by decide +kernel
theorem dX5_init_49 : decode cX5_init 49 = .ok (.aload_n 0, 1) := by decide +kernel
theorem dX5_init_50 : decode cX5_init 50 = .ok (.sipush 700, 3) := by decide +kernel
theorem dX5_init_53 : decode cX5_init 53 = .ok (.newarray .int, 2) := by decide +kernel
theorem dX5_init_55 : decode cX5_init 55 = .ok (.putfield 27, 3) := by decide +kernel
theorem dX5_init_58 : decode cX5_init 58 = .ok (.aload_n 0, 1) := by decide +kernel
theorem dX5_init_59 : decode cX5_init 59 = .ok (.sipush 700, 3) := by decide +kernel
theorem dX5_init_62 : decode cX5_init 62 = .ok (.newarray .int, 2) := by decide +kernel
theorem dX5_init_64 : decode cX5_init 64 = .ok (.putfield 30, 3) := by decide +kernel
theorem dX5_init_67 : decode cX5_init 67 = .ok (.aload_n 0, 1) := by decide +kernel
theorem dX5_init_68 : decode cX5_init 68 = .ok (.sipush 1408, 3) := by decide +kernel
theorem dX5_init_71 : decode cX5_init 71 = .ok (.newarray .int, 2) := by decide +kernel
theorem dX5_init_73 : decode cX5_init 73 = .ok (.putfield 33, 3) := by decide +kernel
theorem dX5_init_76 : decode cX5_init 76 = .ok (.aload_n 0, 1) := by decide +kernel
theorem dX5_init_77 : decode cX5_init 77 = .ok (.aload_n 1, 1) := by decide +kernel
theorem dX5_init_78 : decode cX5_init 78 = .ok (.putfield 36, 3) := by decide +kernel
theorem dX5_init_81 : decode cX5_init 81 = .ok (.return_, 1) := by decide +kernel
theorem dX5_clear_0 : decode cX5_clear 0 = .ok (.aload_n 0, 1) := by decide +kernel
theorem dX5_clear_1 : decode cX5_clear 1 = .ok (.iconst 0, 1) := by decide +kernel
theorem dX5_clear_2 : decode cX5_clear 2 = .ok (.putfield 40, 3) := by decide +kernel
theorem dX5_clear_5 : decode cX5_clear 5 = .ok (.aload_n 0, 1) := by decide +kernel
theorem dX5_clear_6 : decode cX5_clear 6 = .ok (.iconst 0, 1) := by decide +kernel
theorem dX5_clear_7 : decode cX5_clear 7 = .ok (.putfield 44, 3) := by decide +kernel
theorem dX5_clear_10 : decode cX5_clear 10 = .ok (.aload_n 0, 1) := by decide +kernel
theorem dX5_clear_11 : decode cX5_clear 11 = .ok (.sipush 4001, 3) := by decide +kernel
theorem dX5_clear_14 : decode cX5_clear 14 = .ok (.putfield 47, 3) := by decide +kernel
theorem dX5_clear_17 : decode cX5_clear 17 = .ok (.aload_n 0, 1) := by decide +kernel
theorem dX5_clear_18 : decode cX5_clear 18 = .ok (.iconst 0, 1) := by decide +kernel
theorem dX5_clear_19 : decode cX5_clear 19 = .ok (.putfield 50, 3) := by decide +kernel
theorem dX5_clear_22 : decode cX5_clear 22 = .ok (.aload_n 0, 1) := by decide +kernel
theorem dX5_clear_23 : decode cX5_clear 23 = .ok (.iconst 0, 1) := by decide +kernel
theorem dX5_clear_24 : decode cX5_clear 24 = .ok (.putfield 53, 3) := by decide +kernel
theorem dX5_clear_27 : decode cX5_clear 27 = .ok (.aload_n 0, 1) := by decide +kernel
theorem dX5_clear_28 : decode cX5_clear 28 = .ok (.iconst 0, 1) := by decide +kernel
theorem dX5_clear_29 : decode cX5_clear 29 = .ok (.putfield 57, 3) := by decide +kernel
theorem dX5_clear_32 : decode cX5_clear 32 = .ok (.aload_n 0, 1) := by decide +kernel
theorem dX5_clear_33 : decode cX5_clear 33 = .ok (.iconst 1, 1) := by decide +kernel
theorem dX5_clear_34 : decode cX5_clear 34 = .ok (.putfield 60, 3) := by decide +kernel
theorem dX5_clear_37 : decode cX5_clear 37 = .ok (.aload_n 0, 1) := by decide +kernel
theorem dX5_clear_38 : decode cX5_clear 38 = .ok (.getfield 33, 3) := by decide +kernel
theorem dX5_clear_41 : decode cX5_clear 41 = .ok (.iconst (-1), 1) := by decide +kernel
theorem dX5_clear_42 : decode cX5_clear 42 = .ok (.invokestatic 63, 3) := by decide +kernel
theorem dX5_clear_45 : decode cX5_clear 45 = .ok (.return_, 1) := by decide +kernel
theorem dX5_fault_0 : decode cX5_fault 0 = .ok (.aload_n 0, 1) := by decide +kernel
theorem dX5_fault_1 : decode cX5_fault 1 = .ok (.getfield 47, 3) := by decide +kernel
theorem dX5_fault_4 : decode cX5_fault 4 = .ok (.sipush 4000, 3) := by decide +kernel
theorem dX5_fault_7 : decode cX5_fault 7 = .ok (.if_icmp .le 7, 3) := by decide +kernel
theorem dX5_fault_14 : decode cX5_fault 14 = .ok (.aload_n 0, 1) := by decide +kernel
theorem dX5_fault_15 : decode cX5_fault 15 = .ok (.getfield 47, 3) := by decide +kernel
theorem dX5_fault_18 : decode cX5_fault 18 = .ok (.bipush 16, 2) := by decide +kernel
theorem dX5_fault_20 : decode cX5_fault 20 = .ok (.imul, 1) := by decide +kernel
theorem dX5_fault_21 : decode cX5_fault 21 = .ok (.getstatic 69, 3) := by decide +kernel
theorem dX5_fault_24 : decode cX5_fault 24 = .ok (.aload_n 0, 1) := by decide +kernel
theorem dX5_fault_25 : decode cX5_fault 25 = .ok (.getfield 50, 3) := by decide +kernel
theorem dX5_fault_28 : decode cX5_fault 28 = .ok (.iaload, 1) := by decide +kernel
theorem dX5_fault_29 : decode cX5_fault 29 = .ok (.iadd, 1) := by decide +kernel
theorem dX5_fault_30 : decode cX5_fault 30 = .ok (.ireturn, 1) := by decide +kernel
theorem dX5_note_0 : decode cX5_note 0 = .ok (.aload_n 0, 1) := by decide +kernel
theorem dX5_note_1 : decode cX5_note 1 = .ok (.getfield 53, 3) := by decide +kernel
theorem dX5_note_4 : decode cX5_note 4 = .ok (.ifCond .eq 15, 3) := by decide +kernel
theorem dX5_note_7 : decode cX5_note 7 = .ok (.iload_n 1, 1) := by decide +kernel
theorem dX5_note_8 : decode cX5_note 8 = .ok (.ifCond .lt 11, 3) := by decide +kernel
theorem dX5_note_11 : decode cX5_note 11 = .ok (.iload_n 1, 1) := by decide +kernel
theorem dX5_note_12 : decode cX5_note 12 = .ok (.getstatic 69, 3) := by decide +kernel
theorem dX5_note_15 : decode cX5_note 15 = .ok (.arraylength, 1) := by decide +kernel
theorem dX5_note_16 : decode cX5_note 16 = .ok (.if_icmp .lt 4, 3) := by decide +kernel
theorem dX5_note_19 : decode cX5_note 19 = .ok (.return_, 1) := by decide +kernel
theorem dX5_note_20 : decode cX5_note 20 = .ok (.aload_n 0, 1) := by decide +kernel
theorem dX5_note_21 : decode cX5_note 21 = .ok (.iconst 0, 1) := by decide +kernel
theorem dX5_note_22 : decode cX5_note 22 = .ok (.putfield 60, 3) := by decide +kernel
theorem dX5_note_25 : decode cX5_note 25 = .ok (.iload_n 2, 1) := by decide +kernel
theorem dX5_note_26 : decode cX5_note 26 = .ok (.aload_n 0, 1) := by decide +kernel
theorem dX5_note_27 : decode cX5_note 27 = .ok (.getfield 47, 3) := by decide +kernel
theorem dX5_note_30 : decode cX5_note 30 = .ok (.if_icmp .lt 19, 3) := by decide +kernel
theorem dX5_note_49 : decode cX5_note 49 = .ok (.aload_n 0, 1) := by decide +kernel
theorem dX5_note_50 : decode cX5_note 50 = .ok (.iload_n 2, 1) := by decide +kernel
theorem dX5_note_51 : decode cX5_note 51 = .ok (.putfield 47, 3) := by decide +kernel
theorem dX5_note_54 : decode cX5_note 54 = .ok (.aload_n 0, 1) := by decide +kernel
theorem dX5_note_55 : decode cX5_note 55 = .ok (.iload_n 1, 1) := by decide +kernel
theorem dX5_note_56 : decode cX5_note 56 = .ok (.putfield 50, 3) := by decide +kernel
theorem dX5_note_59 : decode cX5_note 59 = .ok (.return_, 1) := by decide +kernel
theorem dX6_init_0 : decode cX6_init 0 = .ok (.aload_n 0, 1) := by decide +kernel
theorem dX6_init_1 : decode cX6_init 1 = .ok (.invokespecial 3, 3) := by decide +kernel
theorem dX6_init_4 : decode cX6_init 4 = .ok (.aload_n 0, 1) := by decide +kernel
theorem dX6_init_5 : decode cX6_init 5 = .ok (.sipush 4000, 3) := by decide +kernel
theorem dX6_init_8 : decode cX6_init 8 = .ok (.newarray .int, 2) := by decide +kernel
theorem dX6_init_10 : decode cX6_init 10 = .ok (.putfield 11, 3) := by decide +kernel
theorem dX6_init_13 : decode cX6_init 13 = .ok (.aload_n 0, 1) := by decide +kernel
theorem dX6_init_14 : decode cX6_init 14 = .ok (.sipush 1024, 3) := by decide +kernel
theorem dX6_init_17 : decode cX6_init 17 = .ok (.newarray .int, 2) := by decide +kernel
theorem dX6_init_19 : decode cX6_init 19 = .ok (.putfield 15, 3) := by decide +kernel
theorem dX6_init_22 : decode cX6_init 22 = .ok (.aload_n 0, 1) := by decide +kernel
theorem dX6_init_23 : decode cX6_init 23 = .ok (.aload_n 1, 1) := by decide +kernel
theorem dX6_init_24 : decode cX6_init 24 = .ok (.putfield 18, 3) := by decide +kernel
theorem dX6_init_27 : decode cX6_init 27 = .ok (.aload_n 0, 1) := by decide +kernel
theorem dX6_init_28 : decode cX6_init 28 = .ok (.aload_n 2, 1) := by decide +kernel
theorem dX6_init_29 : decode cX6_init 29 = .ok (.putfield 22, 3) := by decide +kernel
theorem dX6_init_32 : decode cX6_init 32 = .ok (.aload_n 0, 1) := by decide +kernel
theorem dX6_init_33 : decode cX6_init 33 = .ok (.aload_n 3, 1) := by decide +kernel
theorem dX6_init_34 : decode cX6_init 34 = .ok (.putfield 26, 3) := by decide +kernel
theorem dX6_init_37 : decode cX6_init 37 = .ok (.aload_n 0, 1) := by decide +kernel
theorem dX6_init_38 : decode cX6_init 38 = .ok (.iconst (-1), 1) := by decide +kernel
theorem dX6_init_39 : decode cX6_init 39 = .ok (.putfield 30, 3) := by decide +kernel
theorem dX6_init_42 : decode cX6_init 42 = .ok (.aload_n 0, 1) := by decide +kernel
theorem dX6_init_43 : decode cX6_init 43 = .ok (.sipush 2000, 3) := by decide +kernel
theorem dX6_init_46 : decode cX6_init 46 = .ok (.putfield 34, 3) := by decide +kernel
theorem dX6_init_49 : decode cX6_init 49 = .ok (.return_, 1) := by decide +kernel
theorem dX6_forget_0 : decode cX6_forget 0 = .ok (.aload_n 0, 1) := by decide +kernel
theorem dX6_forget_1 : decode cX6_forget 1 = .ok (.iconst 0, 1) := by decide +kernel
theorem dX6_forget_2 : decode cX6_forget 2 = .ok (.putfield 37, 3) := by decide +kernel
theorem dX6_forget_5 : decode cX6_forget 5 = .ok (.aload_n 0, 1) := by decide +kernel
theorem dX6_forget_6 : decode cX6_forget 6 = .ok (.iconst 0, 1) := by decide +kernel
theorem dX6_forget_7 : decode cX6_forget 7 = .ok (.putfield 40, 3) := by decide +kernel
theorem dX6_forget_10 : decode cX6_forget 10 = .ok (.aload_n 0, 1) := by decide +kernel
theorem dX6_forget_11 : decode cX6_forget 11 = .ok (.iconst 0, 1) := by decide +kernel
theorem dX6_forget_12 : decode cX6_forget 12 = .ok (.putfield 43, 3) := by decide +kernel
theorem dX6_forget_15 : decode cX6_forget 15 = .ok (.aload_n 0, 1) := by decide +kernel
theorem dX6_forget_16 : decode cX6_forget 16 = .ok (.iconst (-1), 1) := by decide +kernel
theorem dX6_forget_17 : decode cX6_forget 17 = .ok (.putfield 30, 3) := by decide +kernel
theorem dX6_forget_20 : decode cX6_forget 20 = .ok (.aload_n 0, 1) := by decide +kernel
theorem dX6_forget_21 : decode cX6_forget 21 = .ok (.iconst 0, 1) := by decide +kernel
theorem dX6_forget_22 : decode cX6_forget 22 = .ok (.putfield 46, 3) := by decide +kernel
theorem dX6_forget_25 : decode cX6_forget 25 = .ok (.aload_n 0, 1) := by decide +kernel
theorem dX6_forget_26 : decode cX6_forget 26 = .ok (.iconst 0, 1) := by decide +kernel
theorem dX6_forget_27 : decode cX6_forget 27 = .ok (.putfield 49, 3) := by decide +kernel
theorem dX6_forget_30 : decode cX6_forget 30 = .ok (.aload_n 0, 1) := by decide +kernel
theorem dX6_forget_31 : decode cX6_forget 31 = .ok (.sipush 2000, 3) := by decide +kernel
theorem dX6_forget_34 : decode cX6_forget 34 = .ok (.putfield 34, 3) := by decide +kernel
theorem dX6_forget_37 : decode cX6_forget 37 = .ok (.aload_n 0, 1) := by decide +kernel
theorem dX6_forget_38 : decode cX6_forget 38 = .ok (.iconst 0, 1) := by decide +kernel
theorem dX6_forget_39 : decode cX6_forget 39 = .ok (.putfield 52, 3) := by decide +kernel
theorem dX6_forget_42 : decode cX6_forget 42 = .ok (.return_, 1) := by decide +kernel
theorem dX6_depth_0 : decode cX6_depth 0 = .ok (.aload_n 0, 1) := by decide +kernel
theorem dX6_depth_1 : decode cX6_depth 1 = .ok (.getfield 34, 3) := by decide +kernel
theorem dX6_depth_4 : decode cX6_depth 4 = .ok (.sipush 2000, 3) := by decide +kernel
theorem dX6_depth_7 : decode cX6_depth 7 = .ok (.isub, 1) := by decide +kernel
theorem dX6_depth_8 : decode cX6_depth 8 = .ok (.ireturn, 1) := by decide +kernel
theorem dX7_init_0 : decode cX7_init 0 = .ok (.aload_n 0, 1) := by decide +kernel
theorem dX7_init_1 : decode cX7_init 1 = .ok (.invokespecial 1, 3) := by decide +kernel
theorem dX7_init_4 : decode cX7_init 4 = .ok (.aload_n 0, 1) := by decide +kernel
theorem dX7_init_5 : decode cX7_init 5 = .ok (.sipush 500, 3) := by decide +kernel
theorem dX7_init_8 : decode cX7_init 8 = .ok (.newarray .int, 2) := by decide +kernel
theorem dX7_init_10 : decode cX7_init 10 = .ok (.putfield 9, 3) := by decide +kernel
theorem dX7_init_13 : decode cX7_init 13 = .ok (.aload_n 0, 1) := by decide +kernel
theorem dX7_init_14 : decode cX7_init 14 = .ok (.sipush 2000, 3) := by decide +kernel
theorem dX7_init_17 : decode cX7_init 17 = .ok (.newarray .int, 2) := by decide +kernel
theorem dX7_init_19 : decode cX7_init 19 = .ok (.putfield 13, 3) := by decide +kernel
theorem dX7_init_22 : decode cX7_init 22 = .ok (.return_, 1) := by decide +kernel
theorem dX7_forgetInput_0 : decode cX7_forgetInput 0 = .ok (.aload_n 0, 1) := by decide +kernel
theorem dX7_forgetInput_1 : decode cX7_forgetInput 1 = .ok (.iconst 0, 1) := by decide +kernel
theorem dX7_forgetInput_2 : decode cX7_forgetInput 2 = .ok (.putfield 16, 3) := by decide +kernel
theorem dX7_forgetInput_5 : decode cX7_forgetInput 5 = .ok (.aload_n 0, 1) := by decide +kernel
theorem dX7_forgetInput_6 : decode cX7_forgetInput 6 = .ok (.iconst 0, 1) := by decide +kernel
theorem dX7_forgetInput_7 : decode cX7_forgetInput 7 = .ok (.putfield 20, 3) := by decide +kernel
theorem dX7_forgetInput_10 : decode cX7_forgetInput 10 = .ok (.return_, 1) := by decide +kernel
theorem dX7_forgetOutput_0 : decode cX7_forgetOutput 0 = .ok (.aload_n 0, 1) := by decide +kernel
theorem dX7_forgetOutput_1 : decode cX7_forgetOutput 1 = .ok (.iconst 0, 1) := by decide +kernel
theorem dX7_forgetOutput_2 : decode cX7_forgetOutput 2 = .ok (.putfield 23, 3) := by decide +kernel
theorem dX7_forgetOutput_5 : decode cX7_forgetOutput 5 = .ok (.return_, 1) := by decide +kernel
theorem dX7_shown_0 : decode cX7_shown 0 = .ok (.iload_n 1, 1) := by decide +kernel
theorem dX7_shown_1 : decode cX7_shown 1 = .ok (.ifCond .lt 18, 3) := by decide +kernel
theorem dX7_shown_4 : decode cX7_shown 4 = .ok (.iload_n 1, 1) := by decide +kernel
theorem dX7_shown_5 : decode cX7_shown 5 = .ok (.sipush 2000, 3) := by decide +kernel
theorem dX7_shown_8 : decode cX7_shown 8 = .ok (.if_icmp .ge 11, 3) := by decide +kernel
theorem dX7_shown_11 : decode cX7_shown 11 = .ok (.iload_n 1, 1) := by decide +kernel
theorem dX7_shown_12 : decode cX7_shown 12 = .ok (.aload_n 0, 1) := by decide +kernel
theorem dX7_shown_13 : decode cX7_shown 13 = .ok (.getfield 23, 3) := by decide +kernel
theorem dX7_shown_16 : decode cX7_shown 16 = .ok (.if_icmp .lt 7, 3) := by decide +kernel
theorem dX7_shown_19 : decode cX7_shown 19 = .ok (.iconst 0, 1) := by decide +kernel
theorem dX7_shown_20 : decode cX7_shown 20 = .ok (.goto 9, 3) := by decide +kernel
theorem dX7_shown_23 : decode cX7_shown 23 = .ok (.aload_n 0, 1) := by decide +kernel
theorem dX7_shown_24 : decode cX7_shown 24 = .ok (.getfield 13, 3) := by decide +kernel
theorem dX7_shown_27 : decode cX7_shown 27 = .ok (.iload_n 1, 1) := by decide +kernel
theorem dX7_shown_28 : decode cX7_shown 28 = .ok (.iaload, 1) := by decide +kernel
theorem dX7_shown_29 : decode cX7_shown 29 = .ok (.ireturn, 1) := by decide +kernel
theorem dX8_init_0 : decode cX8_init 0 = .ok (.aload_n 0, 1) := by decide +kernel
theorem dX8_init_1 : decode cX8_init 1 = .ok (.invokespecial 3, 3) := by decide +kernel
theorem dX8_init_4 : decode cX8_init 4 = .ok (.aload_n 0, 1) := by decide +kernel
theorem dX8_init_5 : decode cX8_init 5 = .ok (.sipush 450, 3) := by decide +kernel
theorem dX8_init_8 : decode cX8_init 8 = .ok (.newarray .int, 2) := by decide +kernel
theorem dX8_init_10 : decode cX8_init 10 = .ok (.putfield 11, 3) := by decide +kernel
theorem dX8_init_13 : decode cX8_init 13 = .ok (.aload_n 0, 1) := by decide +kernel
theorem dX8_init_14 : decode cX8_init 14 = .ok (.sipush 450, 3) := by decide +kernel
theorem dX8_init_17 : decode cX8_init 17 = .ok (.newarray .int, 2) := by decide +kernel
theorem dX8_init_19 : decode cX8_init 19 = .ok (.putfield 15, 3) := by decide +kernel
theorem dX8_init_22 : decode cX8_init 22 = .ok (.aload_n 0, 1) := by decide +kernel
theorem dX8_init_23 : decode cX8_init 23 = .ok (.sipush 450, 3) := by decide +kernel
theorem dX8_init_26 : decode cX8_init 26 = .ok (.newarray .int, 2) := by decide +kernel
theorem dX8_init_28 : decode cX8_init 28 = .ok (.putfield 18, 3) := by decide +kernel
theorem dX8_init_31 : decode cX8_init 31 = .ok (.aload_n 0, 1) := by decide +kernel
theorem dX8_init_32 : decode cX8_init 32 = .ok (.sipush 450, 3) := by decide +kernel
theorem dX8_init_35 : decode cX8_init 35 = .ok (.newarray .int, 2) := by decide +kernel
theorem dX8_init_37 : decode cX8_init 37 = .ok (.putfield 21, 3) := by decide +kernel
theorem dX8_init_40 : decode cX8_init 40 = .ok (.aload_n 0, 1) := by decide +kernel
theorem dX8_init_41 : decode cX8_init 41 = .ok (.sipush 450, 3) := by decide +kernel
theorem dX8_init_44 : decode cX8_init 44 = .ok (.newarray .int, 2) := by decide +kernel
theorem dX8_init_46 : decode cX8_init 46 = .ok (.putfield 24, 3) := by decide +kernel
theorem dX8_init_49 : decode cX8_init 49 = .ok (.aload_n 0, 1) := by decide +kernel
theorem dX8_init_50 : decode cX8_init 50 = .ok (.sipush 450, 3) := by decide +kernel
theorem dX8_init_53 : decode cX8_init 53 = .ok (.newarray .int, 2) := by decide +kernel
theorem dX8_init_55 : decode cX8_init 55 = .ok (.putfield 27, 3) := by decide +kernel
theorem dX8_init_58 : decode cX8_init 58 = .ok (.aload_n 0, 1) := by decide +kernel
theorem dX8_init_59 : decode cX8_init 59 = .ok (.sipush 450, 3) := by decide +kernel
theorem dX8_init_62 : decode cX8_init 62 = .ok (.newarray .int, 2) := by decide +kernel
theorem dX8_init_64 : decode cX8_init 64 = .ok (.putfield 30, 3) := by decide +kernel
theorem dX8_init_67 : decode cX8_init 67 = .ok (.aload_n 0, 1) := by decide +kernel
theorem dX8_init_68 : decode cX8_init 68 = .ok (.sipush 700, 3) := by decide +kernel
theorem dX8_init_71 : decode cX8_init 71 = .ok (.newarray .int, 2) := by decide +kernel
theorem dX8_init_73 : decode cX8_init 73 = .ok (.putfield 33, 3) := by decide +kernel
theorem dX8_init_76 : decode cX8_init 76 = .ok (.aload_n 0, 1) := by decide +kernel
theorem dX8_init_77 : decode cX8_init 77 = .ok (.sipush 2000, 3) := by decide +kernel
theorem dX8_init_80 : decode cX8_init 80 = .ok (.newarray .int, 2) := by decide +kernel
theorem dX8_init_82 : decode cX8_init 82 = .ok (.putfield 36, 3) := by decide +kernel
theorem dX8_init_85 : decode cX8_init 85 = .ok (.return_, 1) := by decide +kernel
theorem dX8_clear_0 : decode cX8_clear 0 = .ok (.aload_n 0, 1) := by decide +kernel
theorem dX8_clear_1 : decode cX8_clear 1 = .ok (.iconst 0, 1) := by decide +kernel
theorem dX8_clear_2 : decode cX8_clear 2 = .ok (.putfield 39, 3) := by decide +kernel
theorem dX8_clear_5 : decode cX8_clear 5 = .ok (.aload_n 0, 1) := by decide +kernel
theorem dX8_clear_6 : decode cX8_clear 6 = .ok (.iconst 0, 1) := by decide +kernel
theorem dX8_clear_7 : decode cX8_clear 7 = .ok (.putfield 43, 3) := by decide +kernel
theorem dX8_clear_10 : decode cX8_clear 10 = .ok (.aload_n 0, 1) := by decide +kernel
theorem dX8_clear_11 : decode cX8_clear 11 = .ok (.iconst 0, 1) := by decide +kernel
theorem dX8_clear_12 : decode cX8_clear 12 = .ok (.putfield 47, 3) := by decide +kernel
theorem dX8_clear_15 : decode cX8_clear 15 = .ok (.aload_n 0, 1) := by decide +kernel
theorem dX8_clear_16 : decode cX8_clear 16 = .ok (.iconst (-1), 1) := by decide +kernel
theorem dX8_clear_17 : decode cX8_clear 17 = .ok (.putfield 50, 3) := by decide +kernel
theorem dX8_clear_20 : decode cX8_clear 20 = .ok (.aload_n 0, 1) := by decide +kernel
theorem dX8_clear_21 : decode cX8_clear 21 = .ok (.iconst 0, 1) := by decide +kernel
theorem dX8_clear_22 : decode cX8_clear 22 = .ok (.putfield 53, 3) := by decide +kernel
theorem dX8_clear_25 : decode cX8_clear 25 = .ok (.aload_n 0, 1) := by decide +kernel
theorem dX8_clear_26 : decode cX8_clear 26 = .ok (.getfield 36, 3) := by decide +kernel
theorem dX8_clear_29 : decode cX8_clear 29 = .ok (.iconst 0, 1) := by decide +kernel
theorem dX8_clear_30 : decode cX8_clear 30 = .ok (.invokestatic 56, 3) := by decide +kernel
theorem dX8_clear_33 : decode cX8_clear 33 = .ok (.return_, 1) := by decide +kernel
theorem dX9_init_0 : decode cX9_init 0 = .ok (.aload_n 0, 1) := by decide +kernel
theorem dX9_init_1 : decode cX9_init 1 = .ok (.invokespecial 3, 3) := by decide +kernel
theorem dX9_init_4 : decode cX9_init 4 = .ok (.aload_n 0, 1) := by decide +kernel
theorem dX9_init_5 : decode cX9_init 5 = .ok (.sipush 4000, 3) := by decide +kernel
theorem dX9_init_8 : decode cX9_init 8 = .ok (.newarray .byte, 2) := by decide +kernel
theorem dX9_init_10 : decode cX9_init 10 = .ok (.putfield 9, 3) := by decide +kernel
theorem dX9_init_13 : decode cX9_init 13 = .ok (.return_, 1) := by decide +kernel
theorem dX9_take_0 : decode cX9_take 0 = .ok (.bipush 24, 2) := by decide +kernel
theorem dX9_take_2 : decode cX9_take 2 = .ok (.istore_n 2, 1) := by decide +kernel
theorem dX9_take_3 : decode cX9_take 3 = .ok (.iload_n 2, 1) := by decide +kernel
theorem dX9_take_4 : decode cX9_take 4 = .ok (.ifCond .lt 42, 3) := by decide +kernel
theorem dX9_take_7 : decode cX9_take 7 = .ok (.aload_n 0, 1) := by decide +kernel
theorem dX9_take_8 : decode cX9_take 8 = .ok (.getfield 15, 3) := by decide +kernel
theorem dX9_take_11 : decode cX9_take 11 = .ok (.sipush 4000, 3) := by decide +kernel
theorem dX9_take_14 : decode cX9_take 14 = .ok (.if_icmp .ge 32, 3) := by decide +kernel
theorem dX9_take_17 : decode cX9_take 17 = .ok (.aload_n 0, 1) := by decide +kernel
theorem dX9_take_18 : decode cX9_take 18 = .ok (.getfield 9, 3) := by decide +kernel
theorem dX9_take_21 : decode cX9_take 21 = .ok (.aload_n 0, 1) := by decide +kernel
theorem dX9_take_22 : decode cX9_take 22 = .ok (.getfield 15, 3) := by decide +kernel
theorem dX9_take_25 : decode cX9_take 25 = .ok (.iload_n 1, 1) := by decide +kernel
theorem dX9_take_26 : decode cX9_take 26 = .ok (.iload_n 2, 1) := by decide +kernel
theorem dX9_take_27 : decode cX9_take 27 = .ok (.iushr, 1) := by decide +kernel
theorem dX9_take_28 : decode cX9_take 28 = .ok (.i2b, 1) := by decide +kernel
theorem dX9_take_29 : decode cX9_take 29 = .ok (.bastore, 1) := by decide +kernel
theorem dX9_take_30 : decode cX9_take 30 = .ok (.aload_n 0, 1) := by decide +kernel
theorem dX9_take_31 : decode cX9_take 31 = .ok (.dup, 1) := by decide +kernel
theorem dX9_take_32 : decode cX9_take 32 = .ok (.getfield 15, 3) := by decide +kernel
theorem dX9_take_35 : decode cX9_take 35 = .ok (.iconst 1, 1) := by decide +kernel
theorem dX9_take_36 : decode cX9_take 36 = .ok (.iadd, 1) := by decide +kernel
theorem dX9_take_37 : decode cX9_take 37 = .ok (.putfield 15, 3) := by decide +kernel
theorem dX9_take_40 : decode cX9_take 40 = .ok (.iinc 2 (-8), 3) := by decide +kernel
theorem dX9_take_43 : decode cX9_take 43 = .ok (.goto (-40), 3) := by decide +kernel
theorem dX9_take_46 : decode cX9_take 46 = .ok (.return_, 1) := by decide +kernel
theorem dX10_init_0 : decode cX10_init 0 = .ok (.aload_n 0, 1) := by decide +kernel
theorem dX10_init_1 : decode cX10_init 1 = .ok (.invokespecial 3, 3) := by decide +kernel
theorem dX10_init_4 : decode cX10_init 4 = .ok (.aload_n 0, 1) := by decide +kernel
theorem dX10_init_5 : decode cX10_init 5 = .ok (.sipush 4001, 3) := by decide +kernel
theorem dX10_init_8 : decode cX10_init 8 = .ok (.newarray .int, 2) := by decide +kernel
theorem dX10_init_10 : decode cX10_init 10 = .ok (.putfield 9, 3) := by decide +kernel
theorem dX10_init_13 : decode cX10_init 13 = .ok (.aload_n 0, 1) := by decide +kernel
theorem dX10_init_14 : decode cX10_init 14 = .ok (.sipush 4001, 3) := by decide +kernel
theorem dX10_init_17 : decode cX10_init 17 = .ok (.newarray .int, 2) := by decide +kernel
theorem dX10_init_19 : decode cX10_init 19 = .ok (.putfield 15, 3) := by decide +kernel
theorem dX10_init_22 : decode cX10_init 22 = .ok (.aload_n 0, 1) := by decide +kernel
theorem dX10_init_23 : decode cX10_init 23 = .ok (.sipush 4001, 3) := by decide +kernel
theorem dX10_init_26 : decode cX10_init 26 = .ok (.newarray .int, 2) := by decide +kernel
theorem dX10_init_28 : decode cX10_init 28 = .ok (.putfield 18, 3) := by decide +kernel
theorem dX10_init_31 : decode cX10_init 31 = .ok (.aload_n 0, 1) := by decide +kernel
theorem dX10_init_32 : decode cX10_init 32 = .ok (.sipush 1024, 3) := by decide +kernel
theorem dX10_init_35 : decode cX10_init 35 = .ok (.newarray .int, 2) := by decide +kernel
theorem dX10_init_37 : decode cX10_init 37 = .ok (.putfield 21, 3) := by decide +kernel
theorem dX10_init_40 : decode cX10_init 40 = .ok (.aload_n 0, 1) := by decide +kernel
theorem dX10_init_41 : decode cX10_init 41 = .ok (.sipush 1408, 3) := by decide +kernel
theorem dX10_init_44 : decode cX10_init 44 = .ok (.newarray .int, 2) := by decide +kernel
theorem dX10_init_46 : decode cX10_init 46 = .ok (.putfield 24, 3) := by decide +kernel
theorem dX10_init_49 : decode cX10_init 49 = .ok (.aload_n 0, 1) := by decide +kernel
theorem dX10_init_50 : decode cX10_init 50 = .ok (.sipush 1408, 3) := by decide +kernel
theorem dX10_init_53 : decode cX10_init 53 = .ok (.newarray .int, 2) := by decide +kernel
theorem dX10_init_55 : decode cX10_init 55 = .ok (.putfield 27, 3) := by decide +kernel
theorem dX10_init_58 : decode cX10_init 58 = .ok (.aload_n 0, 1) := by decide +kernel
theorem dX10_init_59 : decode cX10_init 59 = .ok (.sipush 1408, 3) := by decide +kernel
theorem dX10_init_62 : decode cX10_init 62 = .ok (.newarray .int, 2) := by decide +kernel
theorem dX10_init_64 : decode cX10_init 64 = .ok (.putfield 30, 3) := by decide +kernel
theorem dX10_init_67 : decode cX10_init 67 = .ok (.aload_n 0, 1) := by decide +kernel
theorem dX10_init_68 : decode cX10_init 68 = .ok (.aload_n 1, 1) := by decide +kernel
theorem dX10_init_69 : decode cX10_init 69 = .ok (.putfield 33, 3) := by decide +kernel
theorem dX10_init_72 : decode cX10_init 72 = .ok (.return_, 1) := by decide +kernel
theorem dX10_scan_0 : decode cX10_scan 0 = .ok (.aload_n 0, 1) := by decide +kernel
theorem dX10_scan_1 : decode cX10_scan 1 = .ok (.iconst 0, 1) := by decide +kernel
theorem dX10_scan_2 : decode cX10_scan 2 = .ok (.putfield 37, 3) := by decide +kernel
theorem dX10_scan_5 : decode cX10_scan 5 = .ok (.aload_n 0, 1) := by decide +kernel
theorem dX10_scan_6 : decode cX10_scan 6 = .ok (.iconst 0, 1) := by decide +kernel
theorem dX10_scan_7 : decode cX10_scan 7 = .ok (.putfield 41, 3) := by decide +kernel
theorem dX10_scan_10 : decode cX10_scan 10 = .ok (.aload_n 0, 1) := by decide +kernel
theorem dX10_scan_11 : decode cX10_scan 11 = .ok (.getfield 21, 3) := by decide +kernel
theorem dX10_scan_14 : decode cX10_scan 14 = .ok (.iconst (-1), 1) := by decide +kernel
theorem dX10_scan_15 : decode cX10_scan 15 = .ok (.invokestatic 44, 3) := by decide +kernel
theorem dX10_scan_18 : decode cX10_scan 18 = .ok (.iconst 0, 1) := by decide +kernel
theorem dX10_scan_19 : decode cX10_scan 19 = .ok (.istore_n 1, 1) := by decide +kernel
theorem dX10_scan_20 : decode cX10_scan 20 = .ok (.iconst 0, 1) := by decide +kernel
theorem dX10_scan_21 : decode cX10_scan 21 = .ok (.istore_n 2, 1) := by decide +kernel
theorem dX10_scan_22 : decode cX10_scan 22 = .ok (.iload_n 2, 1) := by decide +kernel
theorem dX10_scan_23 : decode cX10_scan 23 = .ok (.sipush 4001, 3) := by decide +kernel
theorem dX10_scan_26 : decode cX10_scan 26 = .ok (.if_icmp .ge 49, 3) := by decide +kernel
theorem dX10_scan_29 : decode cX10_scan 29 = .ok (.iload_n 1, 1) := by decide +kernel
theorem dX10_scan_30 : decode cX10_scan 30 = .ok (.aload_n 0, 1) := by decide +kernel
theorem dX10_scan_31 : decode cX10_scan 31 = .ok (.getfield 33, 3) := by decide +kernel
theorem dX10_scan_34 : decode cX10_scan 34 = .ok (.getfield 50, 3) := by decide +kernel
theorem dX10_scan_37 : decode cX10_scan 37 = .ok (.if_icmp .ge 38, 3) := by decide +kernel
theorem dX10_scan_75 : decode cX10_scan 75 = .ok (.aload_n 0, 1) := by decide +kernel
theorem dX10_scan_76 : decode cX10_scan 76 = .ok (.iconst 0, 1) := by decide +kernel
theorem dX10_scan_77 : decode cX10_scan 77 = .ok (.iconst 0, 1) := by decide +kernel
theorem dX10_scan_78 : decode cX10_scan 78 = .ok (.aload_n 0, 1) := by decide +kernel
theorem dX10_scan_79 : decode cX10_scan 79 = .ok (.getfield 33, 3) := by decide +kernel
theorem dX10_scan_82 : decode cX10_scan 82 = .ok (.getfield 50, 3) := by decide +kernel
theorem dX10_scan_85 : decode cX10_scan 85 = .ok (.invokevirtual 60, 3) := by decide +kernel
theorem dX10_scan_88 : decode cX10_scan 88 = .ok (.return_, 1) := by decide +kernel
theorem dX10_mainId_0 : decode cX10_mainId 0 = .ok (.iconst (-1), 1) := by decide +kernel
theorem dX10_mainId_1 : decode cX10_mainId 1 = .ok (.istore_n 1, 1) := by decide +kernel
theorem dX10_mainId_2 : decode cX10_mainId 2 = .ok (.iconst 0, 1) := by decide +kernel
theorem dX10_mainId_3 : decode cX10_mainId 3 = .ok (.istore_n 2, 1) := by decide +kernel
theorem dX10_mainId_4 : decode cX10_mainId 4 = .ok (.iload_n 2, 1) := by decide +kernel
theorem dX10_mainId_5 : decode cX10_mainId 5 = .ok (.aload_n 0, 1) := by decide +kernel
theorem dX10_mainId_6 : decode cX10_mainId 6 = .ok (.getfield 41, 3) := by decide +kernel
theorem dX10_mainId_9 : decode cX10_mainId 9 = .ok (.if_icmp .ge 91, 3) := by decide +kernel
theorem dX10_mainId_100 : decode cX10_mainId 100 = .ok (.iload_n 1, 1) := by decide +kernel
theorem dX10_mainId_101 : decode cX10_mainId 101 = .ok (.ireturn, 1) := by decide +kernel
theorem dX10_add_0 : decode cX10_add 0 = .ok (.aload_n 0, 1) := by decide +kernel
theorem dX10_add_1 : decode cX10_add 1 = .ok (.getfield 37, 3) := by decide +kernel
theorem dX10_add_4 : decode cX10_add 4 = .ok (.sipush 4001, 3) := by decide +kernel
theorem dX10_add_7 : decode cX10_add 7 = .ok (.if_icmp .ge 43, 3) := by decide +kernel
theorem dX10_add_10 : decode cX10_add 10 = .ok (.aload_n 0, 1) := by decide +kernel
theorem dX10_add_11 : decode cX10_add 11 = .ok (.getfield 9, 3) := by decide +kernel
theorem dX10_add_14 : decode cX10_add 14 = .ok (.aload_n 0, 1) := by decide +kernel
theorem dX10_add_15 : decode cX10_add 15 = .ok (.getfield 37, 3) := by decide +kernel
theorem dX10_add_18 : decode cX10_add 18 = .ok (.iload_n 1, 1) := by decide +kernel
theorem dX10_add_19 : decode cX10_add 19 = .ok (.iastore, 1) := by decide +kernel
theorem dX10_add_20 : decode cX10_add 20 = .ok (.aload_n 0, 1) := by decide +kernel
theorem dX10_add_21 : decode cX10_add 21 = .ok (.getfield 15, 3) := by decide +kernel
theorem dX10_add_24 : decode cX10_add 24 = .ok (.aload_n 0, 1) := by decide +kernel
theorem dX10_add_25 : decode cX10_add 25 = .ok (.getfield 37, 3) := by decide +kernel
theorem dX10_add_28 : decode cX10_add 28 = .ok (.iload_n 2, 1) := by decide +kernel
theorem dX10_add_29 : decode cX10_add 29 = .ok (.iastore, 1) := by decide +kernel
theorem dX10_add_30 : decode cX10_add 30 = .ok (.aload_n 0, 1) := by decide +kernel
theorem dX10_add_31 : decode cX10_add 31 = .ok (.getfield 18, 3) := by decide +kernel
theorem dX10_add_34 : decode cX10_add 34 = .ok (.aload_n 0, 1) := by decide +kernel
theorem dX10_add_35 : decode cX10_add 35 = .ok (.getfield 37, 3) := by decide +kernel
theorem dX10_add_38 : decode cX10_add 38 = .ok (.iload_n 3, 1) := by decide +kernel
theorem dX10_add_39 : decode cX10_add 39 = .ok (.iastore, 1) := by decide +kernel
theorem dX10_add_40 : decode cX10_add 40 = .ok (.aload_n 0, 1) := by decide +kernel
theorem dX10_add_41 : decode cX10_add 41 = .ok (.dup, 1) := by decide +kernel
theorem dX10_add_42 : decode cX10_add 42 = .ok (.getfield 37, 3) := by decide +kernel
theorem dX10_add_45 : decode cX10_add 45 = .ok (.iconst 1, 1) := by decide +kernel
theorem dX10_add_46 : decode cX10_add 46 = .ok (.iadd, 1) := by decide +kernel
theorem dX10_add_47 : decode cX10_add 47 = .ok (.putfield 37, 3) := by decide +kernel
theorem dX10_add_50 : decode cX10_add 50 = .ok (.return_, 1) := by decide +kernel
theorem dX11_init_0 : decode cX11_init 0 = .ok (.aload_n 0, 1) := by decide +kernel
theorem dX11_init_1 : decode cX11_init 1 = .ok (.invokespecial 3, 3) := by decide +kernel
theorem dX11_init_4 : decode cX11_init 4 = .ok (.new 9, 3) := by decide +kernel
theorem dX11_init_7 : decode cX11_init 7 = .ok (.dup, 1) := by decide +kernel
theorem dX11_init_8 : decode cX11_init 8 = .ok (.invokespecial 11, 3) := by decide +kernel
theorem dX11_init_11 : decode cX11_init 11 = .ok (.astore_n 1, 1) := by decide +kernel
theorem dX11_init_12 : decode cX11_init 12 = .ok (.aload_n 0, 1) := by decide +kernel
theorem dX11_init_13 : decode cX11_init 13 = .ok (.new 12, 3) := by decide +kernel
theorem dX11_init_16 : decode cX11_init 16 = .ok (.dup, 1) := by decide +kernel
theorem dX11_init_17 : decode cX11_init 17 = .ok (.invokespecial 14, 3) := by decide +kernel
theorem dX11_init_20 : decode cX11_init 20 = .ok (.putfield 15, 3) := by decide +kernel
theorem dX11_init_23 : decode cX11_init 23 = .ok (.aload_n 0, 1) := by decide +kernel
theorem dX11_init_24 : decode cX11_init 24 = .ok (.new 19, 3) := by decide +kernel
theorem dX11_init_27 : decode cX11_init 27 = .ok (.dup, 1) := by decide +kernel
theorem dX11_init_28 : decode cX11_init 28 = .ok (.aload_n 0, 1) := by decide +kernel
theorem dX11_init_29 : decode cX11_init 29 = .ok (.getfield 15, 3) := by decide +kernel
theorem dX11_init_32 : decode cX11_init 32 = .ok (.invokespecial 21, 3) := by decide +kernel
theorem dX11_init_35 : decode cX11_init 35 = .ok (.putfield 24, 3) := by decide +kernel
theorem dX11_init_38 : decode cX11_init 38 = .ok (.aload_n 0, 1) := by decide +kernel
theorem dX11_init_39 : decode cX11_init 39 = .ok (.new 28, 3) := by decide +kernel
theorem dX11_init_42 : decode cX11_init 42 = .ok (.dup, 1) := by decide +kernel
theorem dX11_init_43 : decode cX11_init 43 = .ok (.invokespecial 30, 3) := by decide +kernel
theorem dX11_init_46 : decode cX11_init 46 = .ok (.putfield 31, 3) := by decide +kernel
theorem dX11_init_49 : decode cX11_init 49 = .ok (.aload_n 0, 1) := by decide +kernel
theorem dX11_init_50 : decode cX11_init 50 = .ok (.new 35, 3) := by decide +kernel
theorem dX11_init_53 : decode cX11_init 53 = .ok (.dup, 1) := by decide +kernel
theorem dX11_init_54 : decode cX11_init 54 = .ok (.invokespecial 37, 3) := by decide +kernel
theorem dX11_init_57 : decode cX11_init 57 = .ok (.putfield 38, 3) := by decide +kernel
theorem dX11_init_60 : decode cX11_init 60 = .ok (.aload_n 0, 1) := by decide +kernel
theorem dX11_init_61 : decode cX11_init 61 = .ok (.new 42, 3) := by decide +kernel
theorem dX11_init_64 : decode cX11_init 64 = .ok (.dup, 1) := by decide +kernel
theorem dX11_init_65 : decode cX11_init 65 = .ok (.aload_n 1, 1) := by decide +kernel
theorem dX11_init_66 : decode cX11_init 66 = .ok (.aload_n 0, 1) := by decide +kernel
theorem dX11_init_67 : decode cX11_init 67 = .ok (.getfield 31, 3) := by decide +kernel
theorem dX11_init_70 : decode cX11_init 70 = .ok (.aload_n 0, 1) := by decide +kernel
theorem dX11_init_71 : decode cX11_init 71 = .ok (.getfield 38, 3) := by decide +kernel
theorem dX11_init_74 : decode cX11_init 74 = .ok (.invokespecial 44, 3) := by decide +kernel
theorem dX11_init_77 : decode cX11_init 77 = .ok (.putfield 47, 3) := by decide +kernel
theorem dX11_init_80 : decode cX11_init 80 = .ok (.new 51, 3) := by decide +kernel
theorem dX11_init_83 : decode cX11_init 83 = .ok (.dup, 1) := by decide +kernel
theorem dX11_init_84 : decode cX11_init 84 = .ok (.aload_n 0, 1) := by decide +kernel
theorem dX11_init_85 : decode cX11_init 85 = .ok (.getfield 24, 3) := by decide +kernel
theorem dX11_init_88 : decode cX11_init 88 = .ok (.invokespecial 53, 3) := by decide +kernel
theorem dX11_init_91 : decode cX11_init 91 = .ok (.astore_n 2, 1) := by decide +kernel
theorem dX11_init_92 : decode cX11_init 92 = .ok (.new 56, 3) := by decide +kernel
theorem dX11_init_95 : decode cX11_init 95 = .ok (.dup, 1) := by decide +kernel
theorem dX11_init_96 : decode cX11_init 96 = .ok (.aload_n 0, 1) := by decide +kernel
theorem dX11_init_97 : decode cX11_init 97 = .ok (.getfield 31, 3) := by decide +kernel
theorem dX11_init_100 : decode cX11_init 100 = .ok (.invokespecial 58, 3) := by decide +kernel
theorem dX11_init_103 : decode cX11_init 103 = .ok (.astore_n 3, 1) := by decide +kernel
theorem dX11_init_104 : decode cX11_init 104 = .ok (.new 61, 3) := by decide +kernel
theorem dX11_init_107 : decode cX11_init 107 = .ok (.dup, 1) := by decide +kernel
theorem dX11_init_108 : decode cX11_init 108 = .ok (.aload_n 2, 1) := by decide +kernel
theorem dX11_init_109 : decode cX11_init 109 = .ok (.aload_n 3, 1) := by decide +kernel
theorem dX11_init_110 : decode cX11_init 110 = .ok (.aload_n 1, 1) := by decide +kernel
theorem dX11_init_111 : decode cX11_init 111 = .ok (.aload_n 0, 1) := by decide +kernel
theorem dX11_init_112 : decode cX11_init 112 = .ok (.getfield 31, 3) := by decide +kernel
theorem dX11_init_115 : decode cX11_init 115 = .ok (.aload_n 0, 1) := by decide +kernel
theorem dX11_init_116 : decode cX11_init 116 = .ok (.getfield 47, 3) := by decide +kernel
theorem dX11_init_119 : decode cX11_init 119 = .ok (.invokespecial 63, 3) := by decide +kernel
theorem dX11_init_122 : decode cX11_init 122 = .ok (.astore 4, 2) := by decide +kernel
theorem dX11_init_124 : decode cX11_init 124 = .ok (.aload_n 0, 1) := by decide +kernel
theorem dX11_init_125 : decode cX11_init 125 = .ok (.new 66, 3) := by decide +kernel
theorem dX11_init_128 : decode cX11_init 128 = .ok (.dup, 1) := by decide +kernel
theorem dX11_init_129 : decode cX11_init 129 = .ok (.aload_n 2, 1) := by decide +kernel
theorem dX11_init_130 : decode cX11_init 130 = .ok (.aload_n 3, 1) := by decide +kernel
theorem dX11_init_131 : decode cX11_init 131 = .ok (.aload_n 1, 1) := by decide +kernel
theorem dX11_init_132 : decode cX11_init 132 = .ok (.aload_n 0, 1) := by decide +kernel
theorem dX11_init_133 : decode cX11_init 133 = .ok (.getfield 31, 3) := by decide +kernel
theorem dX11_init_136 : decode cX11_init 136 = .ok (.aload 4, 2) := by decide +kernel
theorem dX11_init_138 : decode cX11_init 138 = .ok (.invokespecial 68, 3) := by decide +kernel
theorem dX11_init_141 : decode cX11_init 141 = .ok (.putfield 71, 3) := by decide +kernel
theorem dX11_init_144 : decode cX11_init 144 = .ok (.aload_n 0, 1) := by decide +kernel
theorem dX11_init_145 : decode cX11_init 145 = .ok (.new 75, 3) := by decide +kernel
theorem dX11_init_148 : decode cX11_init 148 = .ok (.dup, 1) := by decide +kernel
theorem dX11_init_149 : decode cX11_init 149 = .ok (.invokespecial 77, 3) := by decide +kernel
theorem dX11_init_152 : decode cX11_init 152 = .ok (.putfield 78, 3) := by decide +kernel
theorem dX11_init_155 : decode cX11_init 155 = .ok (.return_, 1) := by decide +kernel
theorem dX11_feed_0 : decode cX11_feed 0 = .ok (.aload_n 0, 1) := by decide +kernel
theorem dX11_feed_1 : decode cX11_feed 1 = .ok (.getfield 15, 3) := by decide +kernel
theorem dX11_feed_4 : decode cX11_feed 4 = .ok (.getfield 82, 3) := by decide +kernel
theorem dX11_feed_7 : decode cX11_feed 7 = .ok (.sipush 3980, 3) := by decide +kernel
theorem dX11_feed_10 : decode cX11_feed 10 = .ok (.if_icmp .le 5, 3) := by decide +kernel
theorem dX11_feed_15 : decode cX11_feed 15 = .ok (.aload_n 0, 1) := by decide +kernel
theorem dX11_feed_16 : decode cX11_feed 16 = .ok (.getfield 15, 3) := by decide +kernel
theorem dX11_feed_19 : decode cX11_feed 19 = .ok (.iload_n 1, 1) := by decide +kernel
theorem dX11_feed_20 : decode cX11_feed 20 = .ok (.invokevirtual 86, 3) := by decide +kernel
theorem dX11_feed_23 : decode cX11_feed 23 = .ok (.aload_n 0, 1) := by decide +kernel
theorem dX11_feed_24 : decode cX11_feed 24 = .ok (.getfield 15, 3) := by decide +kernel
theorem dX11_feed_27 : decode cX11_feed 27 = .ok (.iload_n 2, 1) := by decide +kernel
theorem dX11_feed_28 : decode cX11_feed 28 = .ok (.invokevirtual 86, 3) := by decide +kernel
theorem dX11_feed_31 : decode cX11_feed 31 = .ok (.aload_n 0, 1) := by decide +kernel
theorem dX11_feed_32 : decode cX11_feed 32 = .ok (.getfield 15, 3) := by decide +kernel
theorem dX11_feed_35 : decode cX11_feed 35 = .ok (.iload_n 3, 1) := by decide +kernel
theorem dX11_feed_36 : decode cX11_feed 36 = .ok (.invokevirtual 86, 3) := by decide +kernel
theorem dX11_feed_39 : decode cX11_feed 39 = .ok (.aload_n 0, 1) := by decide +kernel
theorem dX11_feed_40 : decode cX11_feed 40 = .ok (.getfield 15, 3) := by decide +kernel
theorem dX11_feed_43 : decode cX11_feed 43 = .ok (.iload 4, 2) := by decide +kernel
theorem dX11_feed_45 : decode cX11_feed 45 = .ok (.invokevirtual 86, 3) := by decide +kernel
theorem dX11_feed_48 : decode cX11_feed 48 = .ok (.aload_n 0, 1) := by decide +kernel
theorem dX11_feed_49 : decode cX11_feed 49 = .ok (.getfield 15, 3) := by decide +kernel
theorem dX11_feed_52 : decode cX11_feed 52 = .ok (.iload 5, 2) := by decide +kernel
theorem dX11_feed_54 : decode cX11_feed 54 = .ok (.invokevirtual 86, 3) := by decide +kernel
theorem dX11_feed_57 : decode cX11_feed 57 = .ok (.aload_n 0, 1) := by decide +kernel
theorem dX11_feed_58 : decode cX11_feed 58 = .ok (.getfield 15, 3) := by decide +kernel
theorem dX11_feed_61 : decode cX11_feed 61 = .ok (.getfield 82, 3) := by decide +kernel
theorem dX11_feed_64 : decode cX11_feed 64 = .ok (.ireturn, 1) := by decide +kernel
theorem dX11_end_0 : decode cX11_end 0 = .ok (.iload_n 1, 1) := by decide +kernel
theorem dX11_end_1 : decode cX11_end 1 = .ok (.ifCond .lt 14, 3) := by decide +kernel
theorem dX11_end_4 : decode cX11_end 4 = .ok (.iload_n 1, 1) := by decide +kernel
theorem dX11_end_5 : decode cX11_end 5 = .ok (.aload_n 0, 1) := by decide +kernel
theorem dX11_end_6 : decode cX11_end 6 = .ok (.getfield 15, 3) := by decide +kernel
theorem dX11_end_9 : decode cX11_end 9 = .ok (.getfield 82, 3) := by decide +kernel
theorem dX11_end_12 : decode cX11_end 12 = .ok (.if_icmp .le 5, 3) := by decide +kernel
theorem dX11_end_15 : decode cX11_end 15 = .ok (.iconst (-1), 1) := by decide +kernel
theorem dX11_end_16 : decode cX11_end 16 = .ok (.ireturn, 1) := by decide +kernel
theorem dX11_end_17 : decode cX11_end 17 = .ok (.aload_n 0, 1) := by decide +kernel
theorem dX11_end_18 : decode cX11_end 18 = .ok (.getfield 15, 3) := by decide +kernel
theorem dX11_end_21 : decode cX11_end 21 = .ok (.iload_n 1, 1) := by decide +kernel
theorem dX11_end_22 : decode cX11_end 22 = .ok (.putfield 82, 3) := by decide +kernel
theorem dX11_end_25 : decode cX11_end 25 = .ok (.iload_n 1, 1) := by decide +kernel
theorem dX11_end_26 : decode cX11_end 26 = .ok (.ireturn, 1) := by decide +kernel
theorem dX11_read_0 : decode cX11_read 0 = .ok (.aload_n 0, 1) := by decide +kernel
theorem dX11_read_1 : decode cX11_read 1 = .ok (.getfield 47, 3) := by decide +kernel
theorem dX11_read_4 : decode cX11_read 4 = .ok (.invokevirtual 90, 3) := by decide +kernel
theorem dX11_read_7 : decode cX11_read 7 = .ok (.aload_n 0, 1) := by decide +kernel
theorem dX11_read_8 : decode cX11_read 8 = .ok (.getfield 38, 3) := by decide +kernel
theorem dX11_read_11 : decode cX11_read 11 = .ok (.invokevirtual 93, 3) := by decide +kernel
theorem dX11_read_14 : decode cX11_read 14 = .ok (.aload_n 0, 1) := by decide +kernel
theorem dX11_read_15 : decode cX11_read 15 = .ok (.getfield 38, 3) := by decide +kernel
theorem dX11_read_18 : decode cX11_read 18 = .ok (.invokevirtual 96, 3) := by decide +kernel
theorem dX11_read_21 : decode cX11_read 21 = .ok (.aload_n 0, 1) := by decide +kernel
theorem dX11_read_22 : decode cX11_read 22 = .ok (.getfield 24, 3) := by decide +kernel
theorem dX11_read_25 : decode cX11_read 25 = .ok (.invokevirtual 99, 3) := by decide +kernel
theorem dX11_read_28 : decode cX11_read 28 = .ok (.aload_n 0, 1) := by decide +kernel
theorem dX11_read_29 : decode cX11_read 29 = .ok (.getfield 71, 3) := by decide +kernel
theorem dX11_read_32 : decode cX11_read 32 = .ok (.aload_n 0, 1) := by decide +kernel
theorem dX11_read_33 : decode cX11_read 33 = .ok (.getfield 24, 3) := by decide +kernel
theorem dX11_read_36 : decode cX11_read 36 = .ok (.invokevirtual 102, 3) := by decide +kernel
theorem dX11_read_39 : decode cX11_read 39 = .ok (.invokevirtual 106, 3) := by decide +kernel
theorem dX11_read_42 : decode cX11_read 42 = .ok (.aload_n 0, 1) := by decide +kernel
theorem dX11_read_43 : decode cX11_read 43 = .ok (.getfield 71, 3) := by decide +kernel
theorem dX11_read_46 : decode cX11_read 46 = .ok (.iconst 0, 1) := by decide +kernel
theorem dX11_read_47 : decode cX11_read 47 = .ok (.invokevirtual 109, 3) := by decide +kernel
theorem dX11_read_50 : decode cX11_read 50 = .ok (.istore_n 1, 1) := by decide +kernel
theorem dX11_read_51 : decode cX11_read 51 = .ok (.iload_n 1, 1) := by decide +kernel
theorem dX11_read_52 : decode cX11_read 52 = .ok (.ifCond .ne 12, 3) := by decide +kernel
theorem dX11_read_55 : decode cX11_read 55 = .ok (.aload_n 0, 1) := by decide +kernel
theorem dX11_read_56 : decode cX11_read 56 = .ok (.getfield 71, 3) := by decide +kernel
theorem dX11_read_59 : decode cX11_read 59 = .ok (.iconst 1, 1) := by decide +kernel
theorem dX11_read_60 : decode cX11_read 60 = .ok (.invokevirtual 109, 3) := by decide +kernel
theorem dX11_read_63 : decode cX11_read 63 = .ok (.istore_n 1, 1) := by decide +kernel
theorem dX11_read_64 : decode cX11_read 64 = .ok (.aload_n 0, 1) := by decide +kernel
theorem dX11_read_65 : decode cX11_read 65 = .ok (.getfield 31, 3) := by decide +kernel
theorem dX11_read_68 : decode cX11_read 68 = .ok (.iload_n 1, 1) := by decide +kernel
theorem dX11_read_69 : decode cX11_read 69 = .ok (.ifCond .ne 7, 3) := by decide +kernel
theorem dX11_read_76 : decode cX11_read 76 = .ok (.iconst 0, 1) := by decide +kernel
theorem dX11_read_77 : decode cX11_read 77 = .ok (.putfield 113, 3) := by decide +kernel
theorem dX11_read_80 : decode cX11_read 80 = .ok (.aload_n 0, 1) := by decide +kernel
theorem dX11_read_81 : decode cX11_read 81 = .ok (.getfield 15, 3) := by decide +kernel
theorem dX11_read_84 : decode cX11_read 84 = .ok (.iconst 0, 1) := by decide +kernel
theorem dX11_read_85 : decode cX11_read 85 = .ok (.putfield 82, 3) := by decide +kernel
theorem dX11_read_88 : decode cX11_read 88 = .ok (.iload_n 1, 1) := by decide +kernel
theorem dX11_read_89 : decode cX11_read 89 = .ok (.ireturn, 1) := by decide +kernel
theorem dX11_look_0 : decode cX11_look 0 = .ok (.aload_n 0, 1) := by decide +kernel
theorem dX11_look_1 : decode cX11_look 1 = .ok (.getfield 31, 3) := by decide +kernel
theorem dX11_look_4 : decode cX11_look 4 = .ok (.getfield 113, 3) := by decide +kernel
theorem dX11_look_7 : decode cX11_look 7 = .ok (.ifCond .ne 5, 3) := by decide +kernel
theorem dX11_look_10 : decode cX11_look 10 = .ok (.iconst (-1), 1) := by decide +kernel
theorem dX11_look_11 : decode cX11_look 11 = .ok (.ireturn, 1) := by decide +kernel
theorem dX11_give_0 : decode cX11_give 0 = .ok (.aload_n 0, 1) := by decide +kernel
theorem dX11_give_1 : decode cX11_give 1 = .ok (.getfield 31, 3) := by decide +kernel
theorem dX11_give_4 : decode cX11_give 4 = .ok (.getfield 113, 3) := by decide +kernel
theorem dX11_give_7 : decode cX11_give 7 = .ok (.ifCond .eq 14, 3) := by decide +kernel
theorem dX11_give_21 : decode cX11_give 21 = .ok (.iconst (-1), 1) := by decide +kernel
theorem dX11_give_22 : decode cX11_give 22 = .ok (.ireturn, 1) := by decide +kernel
theorem dX11_begin_0 : decode cX11_begin 0 = .ok (.aload_n 0, 1) := by decide +kernel
theorem dX11_begin_1 : decode cX11_begin 1 = .ok (.getfield 31, 3) := by decide +kernel
theorem dX11_begin_4 : decode cX11_begin 4 = .ok (.getfield 113, 3) := by decide +kernel
theorem dX11_begin_7 : decode cX11_begin 7 = .ok (.ifCond .eq 15, 3) := by decide +kernel
theorem dX11_begin_22 : decode cX11_begin 22 = .ok (.iconst 0, 1) := by decide +kernel
theorem dX11_begin_23 : decode cX11_begin 23 = .ok (.ireturn, 1) := by decide +kernel
theorem dX11_run_0 : decode cX11_run 0 = .ok (.iload_n 1, 1) := by decide +kernel
theorem dX11_run_1 : decode cX11_run 1 = .ok (.ifCond .lt 20, 3) := by decide +kernel
theorem dX11_run_4 : decode cX11_run 4 = .ok (.iload_n 1, 1) := by decide +kernel
theorem dX11_run_5 : decode cX11_run 5 = .ok (.sipush 1000, 3) := by decide +kernel
theorem dX11_run_8 : decode cX11_run 8 = .ok (.if_icmp .gt 13, 3) := by decide +kernel
theorem dX11_run_11 : decode cX11_run 11 = .ok (.aload_n 0, 1) := by decide +kernel
theorem dX11_run_12 : decode cX11_run 12 = .ok (.getfield 47, 3) := by decide +kernel
theorem dX11_run_15 : decode cX11_run 15 = .ok (.getfield 146, 3) := by decide +kernel
theorem dX11_run_18 : decode cX11_run 18 = .ok (.ifCond .ne 5, 3) := by decide +kernel
theorem dX11_run_21 : decode cX11_run 21 = .ok (.iconst (-1), 1) := by decide +kernel
theorem dX11_run_22 : decode cX11_run 22 = .ok (.ireturn, 1) := by decide +kernel
theorem dX11_output_0 : decode cX11_output 0 = .ok (.aload_n 0, 1) := by decide +kernel
theorem dX11_output_1 : decode cX11_output 1 = .ok (.getfield 38, 3) := by decide +kernel
theorem dX11_output_4 : decode cX11_output 4 = .ok (.iload_n 1, 1) := by decide +kernel
theorem dX11_output_5 : decode cX11_output 5 = .ok (.invokevirtual 152, 3) := by decide +kernel
theorem dX11_output_8 : decode cX11_output 8 = .ok (.ireturn, 1) := by decide +kernel
theorem dX11_world_0 : decode cX11_world 0 = .ok (.iload_n 1, 1) := by decide +kernel
theorem dX11_world_1 : decode cX11_world 1 = .ok (.tableswitch 111 0 7 #[47, 55, 63, 71, 79, 87, 95, 103], 47) := by decide +kernel
theorem dX11_world_48 : decode cX11_world 48 = .ok (.aload_n 0, 1) := by decide +kernel
theorem dX11_world_49 : decode cX11_world 49 = .ok (.getfield 47, 3) := by decide +kernel
theorem dX11_world_52 : decode cX11_world 52 = .ok (.getfield 146, 3) := by decide +kernel
theorem dX11_world_55 : decode cX11_world 55 = .ok (.ireturn, 1) := by decide +kernel
theorem dX11_world_56 : decode cX11_world 56 = .ok (.aload_n 0, 1) := by decide +kernel
theorem dX11_world_57 : decode cX11_world 57 = .ok (.getfield 47, 3) := by decide +kernel
theorem dX11_world_60 : decode cX11_world 60 = .ok (.getfield 156, 3) := by decide +kernel
theorem dX11_world_63 : decode cX11_world 63 = .ok (.ireturn, 1) := by decide +kernel
theorem dX11_world_64 : decode cX11_world 64 = .ok (.aload_n 0, 1) := by decide +kernel
theorem dX11_world_65 : decode cX11_world 65 = .ok (.getfield 38, 3) := by decide +kernel
theorem dX11_world_68 : decode cX11_world 68 = .ok (.getfield 159, 3) := by decide +kernel
theorem dX11_world_71 : decode cX11_world 71 = .ok (.ireturn, 1) := by decide +kernel
theorem dX11_world_72 : decode cX11_world 72 = .ok (.aload_n 0, 1) := by decide +kernel
theorem dX11_world_73 : decode cX11_world 73 = .ok (.getfield 38, 3) := by decide +kernel
theorem dX11_world_76 : decode cX11_world 76 = .ok (.getfield 140, 3) := by decide +kernel
theorem dX11_world_79 : decode cX11_world 79 = .ok (.ireturn, 1) := by decide +kernel
theorem dX11_world_80 : decode cX11_world 80 = .ok (.aload_n 0, 1) := by decide +kernel
theorem dX11_world_81 : decode cX11_world 81 = .ok (.getfield 47, 3) := by decide +kernel
theorem dX11_world_84 : decode cX11_world 84 = .ok (.getfield 162, 3) := by decide +kernel
theorem dX11_world_87 : decode cX11_world 87 = .ok (.ireturn, 1) := by decide +kernel
theorem dX11_world_88 : decode cX11_world 88 = .ok (.aload_n 0, 1) := by decide +kernel
theorem dX11_world_89 : decode cX11_world 89 = .ok (.getfield 47, 3) := by decide +kernel
theorem dX11_world_92 : decode cX11_world 92 = .ok (.getfield 165, 3) := by decide +kernel
theorem dX11_world_95 : decode cX11_world 95 = .ok (.ireturn, 1) := by decide +kernel
theorem dX11_world_96 : decode cX11_world 96 = .ok (.aload_n 0, 1) := by decide +kernel
theorem dX11_world_97 : decode cX11_world 97 = .ok (.getfield 47, 3) := by decide +kernel
theorem dX11_world_100 : decode cX11_world 100 = .ok (.invokevirtual 168, 3) := by decide +kernel
theorem dX11_world_103 : decode cX11_world 103 = .ok (.ireturn, 1) := by decide +kernel
theorem dX11_world_104 : decode cX11_world 104 = .ok (.aload_n 0, 1) := by decide +kernel
theorem dX11_world_105 : decode cX11_world 105 = .ok (.getfield 47, 3) := by decide +kernel
theorem dX11_world_108 : decode cX11_world 108 = .ok (.getfield 171, 3) := by decide +kernel
theorem dX11_world_111 : decode cX11_world 111 = .ok (.ireturn, 1) := by decide +kernel
theorem dX11_world_112 : decode cX11_world 112 = .ok (.iconst (-1), 1) := by decide +kernel
theorem dX11_world_113 : decode cX11_world 113 = .ok (.ireturn, 1) := by decide +kernel
theorem dX11_global_0 : decode cX11_global 0 = .ok (.aload_n 0, 1) := by decide +kernel
theorem dX11_global_1 : decode cX11_global 1 = .ok (.getfield 31, 3) := by decide +kernel
theorem dX11_global_4 : decode cX11_global 4 = .ok (.getfield 113, 3) := by decide +kernel
theorem dX11_global_7 : decode cX11_global 7 = .ok (.ifCond .eq 18, 3) := by decide +kernel
theorem dX11_global_25 : decode cX11_global 25 = .ok (.iconst 0, 1) := by decide +kernel
theorem dX11_global_26 : decode cX11_global 26 = .ok (.ireturn, 1) := by decide +kernel
theorem dX11_put_0 : decode cX11_put 0 = .ok (.aload_n 0, 1) := by decide +kernel
theorem dX11_put_1 : decode cX11_put 1 = .ok (.getfield 78, 3) := by decide +kernel
theorem dX11_put_4 : decode cX11_put 4 = .ok (.iload_n 1, 1) := by decide +kernel
theorem dX11_put_5 : decode cX11_put 5 = .ok (.iload_n 2, 1) := by decide +kernel
theorem dX11_put_6 : decode cX11_put 6 = .ok (.invokevirtual 180, 3) := by decide +kernel
theorem dX11_put_9 : decode cX11_put 9 = .ok (.ireturn, 1) := by decide +kernel
theorem dX11_set_0 : decode cX11_set 0 = .ok (.aload_n 0, 1) := by decide +kernel
theorem dX11_set_1 : decode cX11_set 1 = .ok (.getfield 78, 3) := by decide +kernel
theorem dX11_set_4 : decode cX11_set 4 = .ok (.iload_n 1, 1) := by decide +kernel
theorem dX11_set_5 : decode cX11_set 5 = .ok (.iload_n 2, 1) := by decide +kernel
theorem dX11_set_6 : decode cX11_set 6 = .ok (.invokevirtual 184, 3) := by decide +kernel
theorem dX11_set_9 : decode cX11_set 9 = .ok (.ireturn, 1) := by decide +kernel
theorem dX11_go_0 : decode cX11_go 0 = .ok (.iload_n 1, 1) := by decide +kernel
theorem dX11_go_1 : decode cX11_go 1 = .ok (.iconst 1, 1) := by decide +kernel
theorem dX11_go_2 : decode cX11_go 2 = .ok (.if_icmp .lt 10, 3) := by decide +kernel
theorem dX11_go_5 : decode cX11_go 5 = .ok (.iload_n 1, 1) := by decide +kernel
theorem dX11_go_6 : decode cX11_go 6 = .ok (.sipush 1000, 3) := by decide +kernel
theorem dX11_go_9 : decode cX11_go 9 = .ok (.if_icmp .le 7, 3) := by decide +kernel
theorem dX11_go_12 : decode cX11_go 12 = .ok (.iconst (-1), 1) := by decide +kernel
theorem dX11_go_13 : decode cX11_go 13 = .ok (.goto 11, 3) := by decide +kernel
theorem dX11_go_16 : decode cX11_go 16 = .ok (.aload_n 0, 1) := by decide +kernel
theorem dX11_go_17 : decode cX11_go 17 = .ok (.getfield 78, 3) := by decide +kernel
theorem dX11_go_20 : decode cX11_go 20 = .ok (.iload_n 1, 1) := by decide +kernel
theorem dX11_go_21 : decode cX11_go 21 = .ok (.invokevirtual 187, 3) := by decide +kernel
theorem dX11_go_24 : decode cX11_go 24 = .ok (.ireturn, 1) := by decide +kernel
theorem dX11_board_0 : decode cX11_board 0 = .ok (.aload_n 0, 1) := by decide +kernel
theorem dX11_board_1 : decode cX11_board 1 = .ok (.getfield 78, 3) := by decide +kernel
theorem dX11_board_4 : decode cX11_board 4 = .ok (.iload_n 1, 1) := by decide +kernel
theorem dX11_board_5 : decode cX11_board 5 = .ok (.invokevirtual 190, 3) := by decide +kernel
theorem dX11_board_8 : decode cX11_board 8 = .ok (.ireturn, 1) := by decide +kernel
theorem dJ7_fill_53178_0 : decode cJ7_fill_53178 0 = .ok (.iconst 0, 1) := by decide +kernel
theorem dJ7_fill_53178_1 : decode cJ7_fill_53178 1 = .ok (.istore_n 2, 1) := by decide +kernel
theorem dJ7_fill_53178_2 : decode cJ7_fill_53178 2 = .ok (.aload_n 0, 1) := by decide +kernel
theorem dJ7_fill_53178_3 : decode cJ7_fill_53178 3 = .ok (.arraylength, 1) := by decide +kernel
theorem dJ7_fill_53178_4 : decode cJ7_fill_53178 4 = .ok (.istore_n 3, 1) := by decide +kernel
theorem dJ7_fill_53178_5 : decode cJ7_fill_53178 5 = .ok (.iload_n 2, 1) := by decide +kernel
theorem dJ7_fill_53178_6 : decode cJ7_fill_53178 6 = .ok (.iload_n 3, 1) := by decide +kernel
theorem dJ7_fill_53178_7 : decode cJ7_fill_53178 7 = .ok (.if_icmp .ge 13, 3) := by decide +kernel
theorem dJ7_fill_53178_10 : decode cJ7_fill_53178 10 = .ok (.aload_n 0, 1) := by decide +kernel
theorem dJ7_fill_53178_11 : decode cJ7_fill_53178 11 = .ok (.iload_n 2, 1) := by decide +kernel
theorem dJ7_fill_53178_12 : decode cJ7_fill_53178 12 = .ok (.iload_n 1, 1) := by decide +kernel
theorem dJ7_fill_53178_13 : decode cJ7_fill_53178 13 = .ok (.iastore, 1) := by decide +kernel
theorem dJ7_fill_53178_14 : decode cJ7_fill_53178 14 = .ok (.iinc 2 1, 3) := by decide +kernel
theorem dJ7_fill_53178_17 : decode cJ7_fill_53178 17 = .ok (.goto (-12), 3) := by decide +kernel
theorem dJ7_fill_53178_20 : decode cJ7_fill_53178 20 = .ok (.return_, 1) := by decide +kernel
theorem dL_law_0 : decode cL_law 0 = .ok (.new 7, 3) := by decide +kernel
theorem dL_law_3 : decode cL_law 3 = .ok (.dup, 1) := by decide +kernel
theorem dL_law_4 : decode cL_law 4 = .ok (.invokespecial 9, 3) := by decide +kernel
theorem dL_law_7 : decode cL_law 7 = .ok (.astore_n 1, 1) := by decide +kernel
theorem dL_law_8 : decode cL_law 8 = .ok (.new 10, 3) := by decide +kernel
theorem dL_law_11 : decode cL_law 11 = .ok (.dup, 1) := by decide +kernel
theorem dL_law_12 : decode cL_law 12 = .ok (.invokespecial 12, 3) := by decide +kernel
theorem dL_law_15 : decode cL_law 15 = .ok (.astore_n 2, 1) := by decide +kernel
theorem dL_law_16 : decode cL_law 16 = .ok (.iconst 0, 1) := by decide +kernel
theorem dL_law_17 : decode cL_law 17 = .ok (.istore_n 3, 1) := by decide +kernel
theorem dL_law_18 : decode cL_law 18 = .ok (.iload_n 3, 1) := by decide +kernel
theorem dL_law_19 : decode cL_law 19 = .ok (.aload_n 0, 1) := by decide +kernel
theorem dL_law_20 : decode cL_law 20 = .ok (.arraylength, 1) := by decide +kernel
theorem dL_law_21 : decode cL_law 21 = .ok (.bipush 6, 2) := by decide +kernel
theorem dL_law_23 : decode cL_law 23 = .ok (.isub, 1) := by decide +kernel
theorem dL_law_24 : decode cL_law 24 = .ok (.if_icmp .gt 468, 3) := by decide +kernel
theorem dL_law_27 : decode cL_law 27 = .ok (.aload_n 0, 1) := by decide +kernel
theorem dL_law_28 : decode cL_law 28 = .ok (.iload_n 3, 1) := by decide +kernel
theorem dL_law_29 : decode cL_law 29 = .ok (.iaload, 1) := by decide +kernel
theorem dL_law_30 : decode cL_law 30 = .ok (.bipush 15, 2) := by decide +kernel
theorem dL_law_32 : decode cL_law 32 = .ok (.iand, 1) := by decide +kernel
theorem dL_law_33 : decode cL_law 33 = .ok (.tableswitch 453 0 13 #[71, 134, 157, 170, 203, 226, 249, 272, 295, 318, 341, 374, 407, 430], 71) := by decide +kernel
theorem dL_law_104 : decode cL_law 104 = .ok (.aload_n 1, 1) := by decide +kernel
theorem dL_law_105 : decode cL_law 105 = .ok (.aload_n 0, 1) := by decide +kernel
theorem dL_law_106 : decode cL_law 106 = .ok (.iload_n 3, 1) := by decide +kernel
theorem dL_law_107 : decode cL_law 107 = .ok (.iconst 1, 1) := by decide +kernel
theorem dL_law_108 : decode cL_law 108 = .ok (.iadd, 1) := by decide +kernel
theorem dL_law_109 : decode cL_law 109 = .ok (.iaload, 1) := by decide +kernel
theorem dL_law_110 : decode cL_law 110 = .ok (.aload_n 0, 1) := by decide +kernel
theorem dL_law_111 : decode cL_law 111 = .ok (.iload_n 3, 1) := by decide +kernel
theorem dL_law_112 : decode cL_law 112 = .ok (.iconst 2, 1) := by decide +kernel
theorem dL_law_113 : decode cL_law 113 = .ok (.iadd, 1) := by decide +kernel
theorem dL_law_114 : decode cL_law 114 = .ok (.iaload, 1) := by decide +kernel
theorem dL_law_115 : decode cL_law 115 = .ok (.aload_n 0, 1) := by decide +kernel
theorem dL_law_116 : decode cL_law 116 = .ok (.iload_n 3, 1) := by decide +kernel
theorem dL_law_117 : decode cL_law 117 = .ok (.iconst 3, 1) := by decide +kernel
theorem dL_law_118 : decode cL_law 118 = .ok (.iadd, 1) := by decide +kernel
theorem dL_law_119 : decode cL_law 119 = .ok (.iaload, 1) := by decide +kernel
theorem dL_law_120 : decode cL_law 120 = .ok (.aload_n 0, 1) := by decide +kernel
theorem dL_law_121 : decode cL_law 121 = .ok (.iload_n 3, 1) := by decide +kernel
theorem dL_law_122 : decode cL_law 122 = .ok (.iconst 4, 1) := by decide +kernel
theorem dL_law_123 : decode cL_law 123 = .ok (.iadd, 1) := by decide +kernel
theorem dL_law_124 : decode cL_law 124 = .ok (.iaload, 1) := by decide +kernel
theorem dL_law_125 : decode cL_law 125 = .ok (.aload_n 0, 1) := by decide +kernel
theorem dL_law_126 : decode cL_law 126 = .ok (.iload_n 3, 1) := by decide +kernel
theorem dL_law_127 : decode cL_law 127 = .ok (.iconst 5, 1) := by decide +kernel
theorem dL_law_128 : decode cL_law 128 = .ok (.iadd, 1) := by decide +kernel
theorem dL_law_129 : decode cL_law 129 = .ok (.iaload, 1) := by decide +kernel
theorem dL_law_130 : decode cL_law 130 = .ok (.invokevirtual 13, 3) := by decide +kernel
theorem dL_law_133 : decode cL_law 133 = .ok (.aload_n 2, 1) := by decide +kernel
theorem dL_law_134 : decode cL_law 134 = .ok (.aload_n 0, 1) := by decide +kernel
theorem dL_law_135 : decode cL_law 135 = .ok (.iload_n 3, 1) := by decide +kernel
theorem dL_law_136 : decode cL_law 136 = .ok (.iconst 1, 1) := by decide +kernel
theorem dL_law_137 : decode cL_law 137 = .ok (.iadd, 1) := by decide +kernel
theorem dL_law_138 : decode cL_law 138 = .ok (.iaload, 1) := by decide +kernel
theorem dL_law_139 : decode cL_law 139 = .ok (.aload_n 0, 1) := by decide +kernel
theorem dL_law_140 : decode cL_law 140 = .ok (.iload_n 3, 1) := by decide +kernel
theorem dL_law_141 : decode cL_law 141 = .ok (.iconst 2, 1) := by decide +kernel
theorem dL_law_142 : decode cL_law 142 = .ok (.iadd, 1) := by decide +kernel
theorem dL_law_143 : decode cL_law 143 = .ok (.iaload, 1) := by decide +kernel
theorem dL_law_144 : decode cL_law 144 = .ok (.aload_n 0, 1) := by decide +kernel
theorem dL_law_145 : decode cL_law 145 = .ok (.iload_n 3, 1) := by decide +kernel
theorem dL_law_146 : decode cL_law 146 = .ok (.iconst 3, 1) := by decide +kernel
theorem dL_law_147 : decode cL_law 147 = .ok (.iadd, 1) := by decide +kernel
theorem dL_law_148 : decode cL_law 148 = .ok (.iaload, 1) := by decide +kernel
theorem dL_law_149 : decode cL_law 149 = .ok (.aload_n 0, 1) := by decide +kernel
theorem dL_law_150 : decode cL_law 150 = .ok (.iload_n 3, 1) := by decide +kernel
theorem dL_law_151 : decode cL_law 151 = .ok (.iconst 4, 1) := by decide +kernel
theorem dL_law_152 : decode cL_law 152 = .ok (.iadd, 1) := by decide +kernel
theorem dL_law_153 : decode cL_law 153 = .ok (.iaload, 1) := by decide +kernel
theorem dL_law_154 : decode cL_law 154 = .ok (.aload_n 0, 1) := by decide +kernel
theorem dL_law_155 : decode cL_law 155 = .ok (.iload_n 3, 1) := by decide +kernel
theorem dL_law_156 : decode cL_law 156 = .ok (.iconst 5, 1) := by decide +kernel
theorem dL_law_157 : decode cL_law 157 = .ok (.iadd, 1) := by decide +kernel
theorem dL_law_158 : decode cL_law 158 = .ok (.iaload, 1) := by decide +kernel
theorem dL_law_159 : decode cL_law 159 = .ok (.invokevirtual 17, 3) := by decide +kernel
theorem dL_law_162 : decode cL_law 162 = .ok (.if_icmp .eq 324, 3) := by decide +kernel
theorem dL_law_165 : decode cL_law 165 = .ok (.iconst 0, 1) := by decide +kernel
theorem dL_law_166 : decode cL_law 166 = .ok (.ireturn, 1) := by decide +kernel
theorem dL_law_167 : decode cL_law 167 = .ok (.aload_n 1, 1) := by decide +kernel
theorem dL_law_168 : decode cL_law 168 = .ok (.aload_n 0, 1) := by decide +kernel
theorem dL_law_169 : decode cL_law 169 = .ok (.iload_n 3, 1) := by decide +kernel
theorem dL_law_170 : decode cL_law 170 = .ok (.iconst 1, 1) := by decide +kernel
theorem dL_law_171 : decode cL_law 171 = .ok (.iadd, 1) := by decide +kernel
theorem dL_law_172 : decode cL_law 172 = .ok (.iaload, 1) := by decide +kernel
theorem dL_law_173 : decode cL_law 173 = .ok (.invokevirtual 18, 3) := by decide +kernel
theorem dL_law_176 : decode cL_law 176 = .ok (.aload_n 2, 1) := by decide +kernel
theorem dL_law_177 : decode cL_law 177 = .ok (.aload_n 0, 1) := by decide +kernel
theorem dL_law_178 : decode cL_law 178 = .ok (.iload_n 3, 1) := by decide +kernel
theorem dL_law_179 : decode cL_law 179 = .ok (.iconst 1, 1) := by decide +kernel
theorem dL_law_180 : decode cL_law 180 = .ok (.iadd, 1) := by decide +kernel
theorem dL_law_181 : decode cL_law 181 = .ok (.iaload, 1) := by decide +kernel
theorem dL_law_182 : decode cL_law 182 = .ok (.invokevirtual 22, 3) := by decide +kernel
theorem dL_law_185 : decode cL_law 185 = .ok (.if_icmp .eq 301, 3) := by decide +kernel
theorem dL_law_188 : decode cL_law 188 = .ok (.iconst 0, 1) := by decide +kernel
theorem dL_law_189 : decode cL_law 189 = .ok (.ireturn, 1) := by decide +kernel
theorem dL_law_190 : decode cL_law 190 = .ok (.aload_n 1, 1) := by decide +kernel
theorem dL_law_191 : decode cL_law 191 = .ok (.invokevirtual 23, 3) := by decide +kernel
theorem dL_law_194 : decode cL_law 194 = .ok (.aload_n 2, 1) := by decide +kernel
theorem dL_law_195 : decode cL_law 195 = .ok (.invokevirtual 27, 3) := by decide +kernel
theorem dL_law_198 : decode cL_law 198 = .ok (.if_icmp .eq 288, 3) := by decide +kernel
theorem dL_law_201 : decode cL_law 201 = .ok (.iconst 0, 1) := by decide +kernel
theorem dL_law_202 : decode cL_law 202 = .ok (.ireturn, 1) := by decide +kernel
theorem dL_law_203 : decode cL_law 203 = .ok (.aload_n 1, 1) := by decide +kernel
theorem dL_law_204 : decode cL_law 204 = .ok (.aload_n 0, 1) := by decide +kernel
theorem dL_law_205 : decode cL_law 205 = .ok (.iload_n 3, 1) := by decide +kernel
theorem dL_law_206 : decode cL_law 206 = .ok (.iconst 1, 1) := by decide +kernel
theorem dL_law_207 : decode cL_law 207 = .ok (.iadd, 1) := by decide +kernel
theorem dL_law_208 : decode cL_law 208 = .ok (.iaload, 1) := by decide +kernel
theorem dL_law_209 : decode cL_law 209 = .ok (.aload_n 0, 1) := by decide +kernel
theorem dL_law_210 : decode cL_law 210 = .ok (.iload_n 3, 1) := by decide +kernel
theorem dL_law_211 : decode cL_law 211 = .ok (.iconst 2, 1) := by decide +kernel
theorem dL_law_212 : decode cL_law 212 = .ok (.iadd, 1) := by decide +kernel
theorem dL_law_213 : decode cL_law 213 = .ok (.iaload, 1) := by decide +kernel
theorem dL_law_214 : decode cL_law 214 = .ok (.invokevirtual 28, 3) := by decide +kernel
theorem dL_law_217 : decode cL_law 217 = .ok (.aload_n 2, 1) := by decide +kernel
theorem dL_law_218 : decode cL_law 218 = .ok (.aload_n 0, 1) := by decide +kernel
theorem dL_law_219 : decode cL_law 219 = .ok (.iload_n 3, 1) := by decide +kernel
theorem dL_law_220 : decode cL_law 220 = .ok (.iconst 1, 1) := by decide +kernel
theorem dL_law_221 : decode cL_law 221 = .ok (.iadd, 1) := by decide +kernel
theorem dL_law_222 : decode cL_law 222 = .ok (.iaload, 1) := by decide +kernel
theorem dL_law_223 : decode cL_law 223 = .ok (.aload_n 0, 1) := by decide +kernel
theorem dL_law_224 : decode cL_law 224 = .ok (.iload_n 3, 1) := by decide +kernel
theorem dL_law_225 : decode cL_law 225 = .ok (.iconst 2, 1) := by decide +kernel
theorem dL_law_226 : decode cL_law 226 = .ok (.iadd, 1) := by decide +kernel
theorem dL_law_227 : decode cL_law 227 = .ok (.iaload, 1) := by decide +kernel
theorem dL_law_228 : decode cL_law 228 = .ok (.invokevirtual 32, 3) := by decide +kernel
theorem dL_law_231 : decode cL_law 231 = .ok (.if_icmp .eq 255, 3) := by decide +kernel
theorem dL_law_234 : decode cL_law 234 = .ok (.iconst 0, 1) := by decide +kernel
theorem dL_law_235 : decode cL_law 235 = .ok (.ireturn, 1) := by decide +kernel
theorem dL_law_236 : decode cL_law 236 = .ok (.aload_n 1, 1) := by decide +kernel
theorem dL_law_237 : decode cL_law 237 = .ok (.aload_n 0, 1) := by decide +kernel
theorem dL_law_238 : decode cL_law 238 = .ok (.iload_n 3, 1) := by decide +kernel
theorem dL_law_239 : decode cL_law 239 = .ok (.iconst 1, 1) := by decide +kernel
theorem dL_law_240 : decode cL_law 240 = .ok (.iadd, 1) := by decide +kernel
theorem dL_law_241 : decode cL_law 241 = .ok (.iaload, 1) := by decide +kernel
theorem dL_law_242 : decode cL_law 242 = .ok (.invokevirtual 33, 3) := by decide +kernel
theorem dL_law_245 : decode cL_law 245 = .ok (.aload_n 2, 1) := by decide +kernel
theorem dL_law_246 : decode cL_law 246 = .ok (.aload_n 0, 1) := by decide +kernel
theorem dL_law_247 : decode cL_law 247 = .ok (.iload_n 3, 1) := by decide +kernel
theorem dL_law_248 : decode cL_law 248 = .ok (.iconst 1, 1) := by decide +kernel
theorem dL_law_249 : decode cL_law 249 = .ok (.iadd, 1) := by decide +kernel
theorem dL_law_250 : decode cL_law 250 = .ok (.iaload, 1) := by decide +kernel
theorem dL_law_251 : decode cL_law 251 = .ok (.invokevirtual 36, 3) := by decide +kernel
theorem dL_law_254 : decode cL_law 254 = .ok (.if_icmp .eq 232, 3) := by decide +kernel
theorem dL_law_257 : decode cL_law 257 = .ok (.iconst 0, 1) := by decide +kernel
theorem dL_law_258 : decode cL_law 258 = .ok (.ireturn, 1) := by decide +kernel
theorem dL_law_259 : decode cL_law 259 = .ok (.aload_n 1, 1) := by decide +kernel
theorem dL_law_260 : decode cL_law 260 = .ok (.aload_n 0, 1) := by decide +kernel
theorem dL_law_261 : decode cL_law 261 = .ok (.iload_n 3, 1) := by decide +kernel
theorem dL_law_262 : decode cL_law 262 = .ok (.iconst 1, 1) := by decide +kernel
theorem dL_law_263 : decode cL_law 263 = .ok (.iadd, 1) := by decide +kernel
theorem dL_law_264 : decode cL_law 264 = .ok (.iaload, 1) := by decide +kernel
theorem dL_law_265 : decode cL_law 265 = .ok (.invokevirtual 37, 3) := by decide +kernel
theorem dL_law_268 : decode cL_law 268 = .ok (.aload_n 2, 1) := by decide +kernel
theorem dL_law_269 : decode cL_law 269 = .ok (.aload_n 0, 1) := by decide +kernel
theorem dL_law_270 : decode cL_law 270 = .ok (.iload_n 3, 1) := by decide +kernel
theorem dL_law_271 : decode cL_law 271 = .ok (.iconst 1, 1) := by decide +kernel
theorem dL_law_272 : decode cL_law 272 = .ok (.iadd, 1) := by decide +kernel
theorem dL_law_273 : decode cL_law 273 = .ok (.iaload, 1) := by decide +kernel
theorem dL_law_274 : decode cL_law 274 = .ok (.invokevirtual 41, 3) := by decide +kernel
theorem dL_law_277 : decode cL_law 277 = .ok (.if_icmp .eq 209, 3) := by decide +kernel
theorem dL_law_280 : decode cL_law 280 = .ok (.iconst 0, 1) := by decide +kernel
theorem dL_law_281 : decode cL_law 281 = .ok (.ireturn, 1) := by decide +kernel
theorem dL_law_282 : decode cL_law 282 = .ok (.aload_n 1, 1) := by decide +kernel
theorem dL_law_283 : decode cL_law 283 = .ok (.aload_n 0, 1) := by decide +kernel
theorem dL_law_284 : decode cL_law 284 = .ok (.iload_n 3, 1) := by decide +kernel
theorem dL_law_285 : decode cL_law 285 = .ok (.iconst 1, 1) := by decide +kernel
theorem dL_law_286 : decode cL_law 286 = .ok (.iadd, 1) := by decide +kernel
theorem dL_law_287 : decode cL_law 287 = .ok (.iaload, 1) := by decide +kernel
theorem dL_law_288 : decode cL_law 288 = .ok (.invokevirtual 42, 3) := by decide +kernel
theorem dL_law_291 : decode cL_law 291 = .ok (.aload_n 2, 1) := by decide +kernel
theorem dL_law_292 : decode cL_law 292 = .ok (.aload_n 0, 1) := by decide +kernel
theorem dL_law_293 : decode cL_law 293 = .ok (.iload_n 3, 1) := by decide +kernel
theorem dL_law_294 : decode cL_law 294 = .ok (.iconst 1, 1) := by decide +kernel
theorem dL_law_295 : decode cL_law 295 = .ok (.iadd, 1) := by decide +kernel
theorem dL_law_296 : decode cL_law 296 = .ok (.iaload, 1) := by decide +kernel
theorem dL_law_297 : decode cL_law 297 = .ok (.invokevirtual 45, 3) := by decide +kernel
theorem dL_law_300 : decode cL_law 300 = .ok (.if_icmp .eq 186, 3) := by decide +kernel
theorem dL_law_303 : decode cL_law 303 = .ok (.iconst 0, 1) := by decide +kernel
theorem dL_law_304 : decode cL_law 304 = .ok (.ireturn, 1) := by decide +kernel
theorem dL_law_305 : decode cL_law 305 = .ok (.aload_n 1, 1) := by decide +kernel
theorem dL_law_306 : decode cL_law 306 = .ok (.aload_n 0, 1) := by decide +kernel
theorem dL_law_307 : decode cL_law 307 = .ok (.iload_n 3, 1) := by decide +kernel
theorem dL_law_308 : decode cL_law 308 = .ok (.iconst 1, 1) := by decide +kernel
theorem dL_law_309 : decode cL_law 309 = .ok (.iadd, 1) := by decide +kernel
theorem dL_law_310 : decode cL_law 310 = .ok (.iaload, 1) := by decide +kernel
theorem dL_law_311 : decode cL_law 311 = .ok (.invokevirtual 46, 3) := by decide +kernel
theorem dL_law_314 : decode cL_law 314 = .ok (.aload_n 2, 1) := by decide +kernel
theorem dL_law_315 : decode cL_law 315 = .ok (.aload_n 0, 1) := by decide +kernel
theorem dL_law_316 : decode cL_law 316 = .ok (.iload_n 3, 1) := by decide +kernel
theorem dL_law_317 : decode cL_law 317 = .ok (.iconst 1, 1) := by decide +kernel
theorem dL_law_318 : decode cL_law 318 = .ok (.iadd, 1) := by decide +kernel
theorem dL_law_319 : decode cL_law 319 = .ok (.iaload, 1) := by decide +kernel
theorem dL_law_320 : decode cL_law 320 = .ok (.invokevirtual 49, 3) := by decide +kernel
theorem dL_law_323 : decode cL_law 323 = .ok (.if_icmp .eq 163, 3) := by decide +kernel
theorem dL_law_326 : decode cL_law 326 = .ok (.iconst 0, 1) := by decide +kernel
theorem dL_law_327 : decode cL_law 327 = .ok (.ireturn, 1) := by decide +kernel
theorem dL_law_328 : decode cL_law 328 = .ok (.aload_n 1, 1) := by decide +kernel
theorem dL_law_329 : decode cL_law 329 = .ok (.aload_n 0, 1) := by decide +kernel
theorem dL_law_330 : decode cL_law 330 = .ok (.iload_n 3, 1) := by decide +kernel
theorem dL_law_331 : decode cL_law 331 = .ok (.iconst 1, 1) := by decide +kernel
theorem dL_law_332 : decode cL_law 332 = .ok (.iadd, 1) := by decide +kernel
theorem dL_law_333 : decode cL_law 333 = .ok (.iaload, 1) := by decide +kernel
theorem dL_law_334 : decode cL_law 334 = .ok (.invokevirtual 50, 3) := by decide +kernel
theorem dL_law_337 : decode cL_law 337 = .ok (.aload_n 2, 1) := by decide +kernel
theorem dL_law_338 : decode cL_law 338 = .ok (.aload_n 0, 1) := by decide +kernel
theorem dL_law_339 : decode cL_law 339 = .ok (.iload_n 3, 1) := by decide +kernel
theorem dL_law_340 : decode cL_law 340 = .ok (.iconst 1, 1) := by decide +kernel
theorem dL_law_341 : decode cL_law 341 = .ok (.iadd, 1) := by decide +kernel
theorem dL_law_342 : decode cL_law 342 = .ok (.iaload, 1) := by decide +kernel
theorem dL_law_343 : decode cL_law 343 = .ok (.invokevirtual 53, 3) := by decide +kernel
theorem dL_law_346 : decode cL_law 346 = .ok (.if_icmp .eq 140, 3) := by decide +kernel
theorem dL_law_349 : decode cL_law 349 = .ok (.iconst 0, 1) := by decide +kernel
theorem dL_law_350 : decode cL_law 350 = .ok (.ireturn, 1) := by decide +kernel
theorem dL_law_351 : decode cL_law 351 = .ok (.aload_n 1, 1) := by decide +kernel
theorem dL_law_352 : decode cL_law 352 = .ok (.aload_n 0, 1) := by decide +kernel
theorem dL_law_353 : decode cL_law 353 = .ok (.iload_n 3, 1) := by decide +kernel
theorem dL_law_354 : decode cL_law 354 = .ok (.iconst 1, 1) := by decide +kernel
theorem dL_law_355 : decode cL_law 355 = .ok (.iadd, 1) := by decide +kernel
theorem dL_law_356 : decode cL_law 356 = .ok (.iaload, 1) := by decide +kernel
theorem dL_law_357 : decode cL_law 357 = .ok (.invokevirtual 54, 3) := by decide +kernel
theorem dL_law_360 : decode cL_law 360 = .ok (.aload_n 2, 1) := by decide +kernel
theorem dL_law_361 : decode cL_law 361 = .ok (.aload_n 0, 1) := by decide +kernel
theorem dL_law_362 : decode cL_law 362 = .ok (.iload_n 3, 1) := by decide +kernel
theorem dL_law_363 : decode cL_law 363 = .ok (.iconst 1, 1) := by decide +kernel
theorem dL_law_364 : decode cL_law 364 = .ok (.iadd, 1) := by decide +kernel
theorem dL_law_365 : decode cL_law 365 = .ok (.iaload, 1) := by decide +kernel
theorem dL_law_366 : decode cL_law 366 = .ok (.invokevirtual 57, 3) := by decide +kernel
theorem dL_law_369 : decode cL_law 369 = .ok (.if_icmp .eq 117, 3) := by decide +kernel
theorem dL_law_372 : decode cL_law 372 = .ok (.iconst 0, 1) := by decide +kernel
theorem dL_law_373 : decode cL_law 373 = .ok (.ireturn, 1) := by decide +kernel
theorem dL_law_374 : decode cL_law 374 = .ok (.aload_n 1, 1) := by decide +kernel
theorem dL_law_375 : decode cL_law 375 = .ok (.aload_n 0, 1) := by decide +kernel
theorem dL_law_376 : decode cL_law 376 = .ok (.iload_n 3, 1) := by decide +kernel
theorem dL_law_377 : decode cL_law 377 = .ok (.iconst 1, 1) := by decide +kernel
theorem dL_law_378 : decode cL_law 378 = .ok (.iadd, 1) := by decide +kernel
theorem dL_law_379 : decode cL_law 379 = .ok (.iaload, 1) := by decide +kernel
theorem dL_law_380 : decode cL_law 380 = .ok (.aload_n 0, 1) := by decide +kernel
theorem dL_law_381 : decode cL_law 381 = .ok (.iload_n 3, 1) := by decide +kernel
theorem dL_law_382 : decode cL_law 382 = .ok (.iconst 2, 1) := by decide +kernel
theorem dL_law_383 : decode cL_law 383 = .ok (.iadd, 1) := by decide +kernel
theorem dL_law_384 : decode cL_law 384 = .ok (.iaload, 1) := by decide +kernel
theorem dL_law_385 : decode cL_law 385 = .ok (.invokevirtual 58, 3) := by decide +kernel
theorem dL_law_388 : decode cL_law 388 = .ok (.aload_n 2, 1) := by decide +kernel
theorem dL_law_389 : decode cL_law 389 = .ok (.aload_n 0, 1) := by decide +kernel
theorem dL_law_390 : decode cL_law 390 = .ok (.iload_n 3, 1) := by decide +kernel
theorem dL_law_391 : decode cL_law 391 = .ok (.iconst 1, 1) := by decide +kernel
theorem dL_law_392 : decode cL_law 392 = .ok (.iadd, 1) := by decide +kernel
theorem dL_law_393 : decode cL_law 393 = .ok (.iaload, 1) := by decide +kernel
theorem dL_law_394 : decode cL_law 394 = .ok (.aload_n 0, 1) := by decide +kernel
theorem dL_law_395 : decode cL_law 395 = .ok (.iload_n 3, 1) := by decide +kernel
theorem dL_law_396 : decode cL_law 396 = .ok (.iconst 2, 1) := by decide +kernel
theorem dL_law_397 : decode cL_law 397 = .ok (.iadd, 1) := by decide +kernel
theorem dL_law_398 : decode cL_law 398 = .ok (.iaload, 1) := by decide +kernel
theorem dL_law_399 : decode cL_law 399 = .ok (.invokevirtual 62, 3) := by decide +kernel
theorem dL_law_402 : decode cL_law 402 = .ok (.if_icmp .eq 84, 3) := by decide +kernel
theorem dL_law_405 : decode cL_law 405 = .ok (.iconst 0, 1) := by decide +kernel
theorem dL_law_406 : decode cL_law 406 = .ok (.ireturn, 1) := by decide +kernel
theorem dL_law_407 : decode cL_law 407 = .ok (.aload_n 1, 1) := by decide +kernel
theorem dL_law_408 : decode cL_law 408 = .ok (.aload_n 0, 1) := by decide +kernel
theorem dL_law_409 : decode cL_law 409 = .ok (.iload_n 3, 1) := by decide +kernel
theorem dL_law_410 : decode cL_law 410 = .ok (.iconst 1, 1) := by decide +kernel
theorem dL_law_411 : decode cL_law 411 = .ok (.iadd, 1) := by decide +kernel
theorem dL_law_412 : decode cL_law 412 = .ok (.iaload, 1) := by decide +kernel
theorem dL_law_413 : decode cL_law 413 = .ok (.aload_n 0, 1) := by decide +kernel
theorem dL_law_414 : decode cL_law 414 = .ok (.iload_n 3, 1) := by decide +kernel
theorem dL_law_415 : decode cL_law 415 = .ok (.iconst 2, 1) := by decide +kernel
theorem dL_law_416 : decode cL_law 416 = .ok (.iadd, 1) := by decide +kernel
theorem dL_law_417 : decode cL_law 417 = .ok (.iaload, 1) := by decide +kernel
theorem dL_law_418 : decode cL_law 418 = .ok (.invokevirtual 63, 3) := by decide +kernel
theorem dL_law_421 : decode cL_law 421 = .ok (.aload_n 2, 1) := by decide +kernel
theorem dL_law_422 : decode cL_law 422 = .ok (.aload_n 0, 1) := by decide +kernel
theorem dL_law_423 : decode cL_law 423 = .ok (.iload_n 3, 1) := by decide +kernel
theorem dL_law_424 : decode cL_law 424 = .ok (.iconst 1, 1) := by decide +kernel
theorem dL_law_425 : decode cL_law 425 = .ok (.iadd, 1) := by decide +kernel
theorem dL_law_426 : decode cL_law 426 = .ok (.iaload, 1) := by decide +kernel
theorem dL_law_427 : decode cL_law 427 = .ok (.aload_n 0, 1) := by decide +kernel
theorem dL_law_428 : decode cL_law 428 = .ok (.iload_n 3, 1) := by decide +kernel
theorem dL_law_429 : decode cL_law 429 = .ok (.iconst 2, 1) := by decide +kernel
theorem dL_law_430 : decode cL_law 430 = .ok (.iadd, 1) := by decide +kernel
theorem dL_law_431 : decode cL_law 431 = .ok (.iaload, 1) := by decide +kernel
theorem dL_law_432 : decode cL_law 432 = .ok (.invokevirtual 66, 3) := by decide +kernel
theorem dL_law_435 : decode cL_law 435 = .ok (.if_icmp .eq 51, 3) := by decide +kernel
theorem dL_law_438 : decode cL_law 438 = .ok (.iconst 0, 1) := by decide +kernel
theorem dL_law_439 : decode cL_law 439 = .ok (.ireturn, 1) := by decide +kernel
theorem dL_law_440 : decode cL_law 440 = .ok (.aload_n 1, 1) := by decide +kernel
theorem dL_law_441 : decode cL_law 441 = .ok (.aload_n 0, 1) := by decide +kernel
theorem dL_law_442 : decode cL_law 442 = .ok (.iload_n 3, 1) := by decide +kernel
theorem dL_law_443 : decode cL_law 443 = .ok (.iconst 1, 1) := by decide +kernel
theorem dL_law_444 : decode cL_law 444 = .ok (.iadd, 1) := by decide +kernel
theorem dL_law_445 : decode cL_law 445 = .ok (.iaload, 1) := by decide +kernel
theorem dL_law_446 : decode cL_law 446 = .ok (.invokevirtual 67, 3) := by decide +kernel
theorem dL_law_449 : decode cL_law 449 = .ok (.aload_n 2, 1) := by decide +kernel
theorem dL_law_450 : decode cL_law 450 = .ok (.aload_n 0, 1) := by decide +kernel
theorem dL_law_451 : decode cL_law 451 = .ok (.iload_n 3, 1) := by decide +kernel
theorem dL_law_452 : decode cL_law 452 = .ok (.iconst 1, 1) := by decide +kernel
theorem dL_law_453 : decode cL_law 453 = .ok (.iadd, 1) := by decide +kernel
theorem dL_law_454 : decode cL_law 454 = .ok (.iaload, 1) := by decide +kernel
theorem dL_law_455 : decode cL_law 455 = .ok (.invokevirtual 70, 3) := by decide +kernel
theorem dL_law_458 : decode cL_law 458 = .ok (.if_icmp .eq 28, 3) := by decide +kernel
theorem dL_law_461 : decode cL_law 461 = .ok (.iconst 0, 1) := by decide +kernel
theorem dL_law_462 : decode cL_law 462 = .ok (.ireturn, 1) := by decide +kernel
theorem dL_law_463 : decode cL_law 463 = .ok (.aload_n 1, 1) := by decide +kernel
theorem dL_law_464 : decode cL_law 464 = .ok (.aload_n 0, 1) := by decide +kernel
theorem dL_law_465 : decode cL_law 465 = .ok (.iload_n 3, 1) := by decide +kernel
theorem dL_law_466 : decode cL_law 466 = .ok (.iconst 1, 1) := by decide +kernel
theorem dL_law_467 : decode cL_law 467 = .ok (.iadd, 1) := by decide +kernel
theorem dL_law_468 : decode cL_law 468 = .ok (.iaload, 1) := by decide +kernel
theorem dL_law_469 : decode cL_law 469 = .ok (.invokevirtual 71, 3) := by decide +kernel
theorem dL_law_472 : decode cL_law 472 = .ok (.aload_n 2, 1) := by decide +kernel
theorem dL_law_473 : decode cL_law 473 = .ok (.aload_n 0, 1) := by decide +kernel
theorem dL_law_474 : decode cL_law 474 = .ok (.iload_n 3, 1) := by decide +kernel
theorem dL_law_475 : decode cL_law 475 = .ok (.iconst 1, 1) := by decide +kernel
theorem dL_law_476 : decode cL_law 476 = .ok (.iadd, 1) := by decide +kernel
theorem dL_law_477 : decode cL_law 477 = .ok (.iaload, 1) := by decide +kernel
theorem dL_law_478 : decode cL_law 478 = .ok (.invokevirtual 74, 3) := by decide +kernel
theorem dL_law_481 : decode cL_law 481 = .ok (.if_icmp .eq 5, 3) := by decide +kernel
theorem dL_law_484 : decode cL_law 484 = .ok (.iconst 0, 1) := by decide +kernel
theorem dL_law_485 : decode cL_law 485 = .ok (.ireturn, 1) := by decide +kernel
theorem dL_law_486 : decode cL_law 486 = .ok (.iinc 3 6, 3) := by decide +kernel
theorem dL_law_489 : decode cL_law 489 = .ok (.goto (-471), 3) := by decide +kernel
theorem dL_law_492 : decode cL_law 492 = .ok (.iconst 1, 1) := by decide +kernel
theorem dL_law_493 : decode cL_law 493 = .ok (.ireturn, 1) := by decide +kernel
