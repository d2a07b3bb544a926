theorem dX0_init_0 : decode cX0_init 0 = .ok (.aload_n 0, 1) := by decide +kernel
theorem dX0_init_1 : decode cX0_init 1 = .ok (.invokespecial 5, 3) := by decide +kernel
theorem dX0_init_4 : decode cX0_init 4 = .ok (.aload_n 0, 1) := by decide +kernel
theorem dX0_init_5 : decode cX0_init 5 = .ok (.sipush 4096, 3) := by decide +kernel
theorem dX0_init_8 : decode cX0_init 8 = .ok (.newarray .int, 2) := by decide +kernel
theorem dX0_init_10 : decode cX0_init 10 = .ok (.putfield 11, 3) := by decide +kernel
theorem dX0_init_13 : decode cX0_init 13 = .ok (.aload_n 0, 1) := by decide +kernel
theorem dX0_init_14 : decode cX0_init 14 = .ok (.bipush 32, 2) := by decide +kernel
theorem dX0_init_16 : decode cX0_init 16 = .ok (.newarray .int, 2) := by decide +kernel
theorem dX0_init_18 : decode cX0_init 18 = .ok (.putfield 15, 3) := by decide +kernel
theorem dX0_init_21 : decode cX0_init 21 = .ok (.return_, 1) := by decide +kernel
theorem dX0_hold_0 : decode cX0_hold 0 = .ok (.iload_n 1, 1) := by decide +kernel
theorem dX0_hold_1 : decode cX0_hold 1 = .ok (.ifCond .lt 16, 3) := by decide +kernel
theorem dX0_hold_4 : decode cX0_hold 4 = .ok (.iload_n 1, 1) := by decide +kernel
theorem dX0_hold_5 : decode cX0_hold 5 = .ok (.sipush 16384, 3) := by decide +kernel
theorem dX0_hold_8 : decode cX0_hold 8 = .ok (.if_icmp .ge 9, 3) := by decide +kernel
theorem dX0_hold_11 : decode cX0_hold 11 = .ok (.iload_n 1, 1) := by decide +kernel
theorem dX0_hold_12 : decode cX0_hold 12 = .ok (.iconst 3, 1) := by decide +kernel
theorem dX0_hold_13 : decode cX0_hold 13 = .ok (.iand, 1) := by decide +kernel
theorem dX0_hold_14 : decode cX0_hold 14 = .ok (.ifCond .eq 5, 3) := by decide +kernel
theorem dX0_hold_17 : decode cX0_hold 17 = .ok (.iconst 0, 1) := by decide +kernel
theorem dX0_hold_18 : decode cX0_hold 18 = .ok (.ireturn, 1) := by decide +kernel
theorem dX0_hold_19 : decode cX0_hold 19 = .ok (.aload_n 0, 1) := by decide +kernel
theorem dX0_hold_20 : decode cX0_hold 20 = .ok (.getfield 11, 3) := by decide +kernel
theorem dX0_hold_23 : decode cX0_hold 23 = .ok (.iload_n 1, 1) := by decide +kernel
theorem dX0_hold_24 : decode cX0_hold 24 = .ok (.iconst 2, 1) := by decide +kernel
theorem dX0_hold_25 : decode cX0_hold 25 = .ok (.ishr, 1) := by decide +kernel
theorem dX0_hold_26 : decode cX0_hold 26 = .ok (.iload_n 2, 1) := by decide +kernel
theorem dX0_hold_27 : decode cX0_hold 27 = .ok (.iastore, 1) := by decide +kernel
theorem dX0_hold_28 : decode cX0_hold 28 = .ok (.iconst 1, 1) := by decide +kernel
theorem dX0_hold_29 : decode cX0_hold 29 = .ok (.ireturn, 1) := by decide +kernel
theorem dX0_change_0 : decode cX0_change 0 = .ok (.iload_n 1, 1) := by decide +kernel
theorem dX0_change_1 : decode cX0_change 1 = .ok (.iconst 1, 1) := by decide +kernel
theorem dX0_change_2 : decode cX0_change 2 = .ok (.if_icmp .lt 9, 3) := by decide +kernel
theorem dX0_change_5 : decode cX0_change 5 = .ok (.iload_n 1, 1) := by decide +kernel
theorem dX0_change_6 : decode cX0_change 6 = .ok (.bipush 32, 2) := by decide +kernel
theorem dX0_change_8 : decode cX0_change 8 = .ok (.if_icmp .le 5, 3) := by decide +kernel
theorem dX0_change_11 : decode cX0_change 11 = .ok (.iconst 0, 1) := by decide +kernel
theorem dX0_change_12 : decode cX0_change 12 = .ok (.ireturn, 1) := by decide +kernel
theorem dX0_change_13 : decode cX0_change 13 = .ok (.iload_n 1, 1) := by decide +kernel
theorem dX0_change_14 : decode cX0_change 14 = .ok (.bipush 32, 2) := by decide +kernel
theorem dX0_change_16 : decode cX0_change 16 = .ok (.if_icmp .ne 11, 3) := by decide +kernel
theorem dX0_change_19 : decode cX0_change 19 = .ok (.aload_n 0, 1) := by decide +kernel
theorem dX0_change_20 : decode cX0_change 20 = .ok (.iload_n 2, 1) := by decide +kernel
theorem dX0_change_21 : decode cX0_change 21 = .ok (.putfield 18, 3) := by decide +kernel
theorem dX0_change_24 : decode cX0_change 24 = .ok (.goto 10, 3) := by decide +kernel
theorem dX0_change_27 : decode cX0_change 27 = .ok (.aload_n 0, 1) := by decide +kernel
theorem dX0_change_28 : decode cX0_change 28 = .ok (.iload_n 1, 1) := by decide +kernel
theorem dX0_change_29 : decode cX0_change 29 = .ok (.iload_n 2, 1) := by decide +kernel
theorem dX0_change_30 : decode cX0_change 30 = .ok (.invokevirtual 22, 3) := by decide +kernel
theorem dX0_change_33 : decode cX0_change 33 = .ok (.pop, 1) := by decide +kernel
theorem dX0_change_34 : decode cX0_change 34 = .ok (.iconst 1, 1) := by decide +kernel
theorem dX0_change_35 : decode cX0_change 35 = .ok (.ireturn, 1) := by decide +kernel
theorem dX0_shown_0 : decode cX0_shown 0 = .ok (.iload_n 1, 1) := by decide +kernel
theorem dX0_shown_1 : decode cX0_shown 1 = .ok (.ifCond .lt 16, 3) := by decide +kernel
theorem dX0_shown_4 : decode cX0_shown 4 = .ok (.iload_n 1, 1) := by decide +kernel
theorem dX0_shown_5 : decode cX0_shown 5 = .ok (.bipush 32, 2) := by decide +kernel
theorem dX0_shown_7 : decode cX0_shown 7 = .ok (.if_icmp .ge 10, 3) := by decide +kernel
theorem dX0_shown_10 : decode cX0_shown 10 = .ok (.aload_n 0, 1) := by decide +kernel
theorem dX0_shown_11 : decode cX0_shown 11 = .ok (.getfield 15, 3) := by decide +kernel
theorem dX0_shown_14 : decode cX0_shown 14 = .ok (.iload_n 1, 1) := by decide +kernel
theorem dX0_shown_15 : decode cX0_shown 15 = .ok (.iaload, 1) := by decide +kernel
theorem dX0_shown_16 : decode cX0_shown 16 = .ok (.ireturn, 1) := by decide +kernel
theorem dX0_shown_17 : decode cX0_shown 17 = .ok (.iload_n 1, 1) := by decide +kernel
theorem dX0_shown_18 : decode cX0_shown 18 = .ok (.bipush 32, 2) := by decide +kernel
theorem dX0_shown_20 : decode cX0_shown 20 = .ok (.if_icmp .ne 8, 3) := by decide +kernel
theorem dX0_shown_23 : decode cX0_shown 23 = .ok (.aload_n 0, 1) := by decide +kernel
theorem dX0_shown_24 : decode cX0_shown 24 = .ok (.getfield 18, 3) := by decide +kernel
theorem dX0_shown_27 : decode cX0_shown 27 = .ok (.ireturn, 1) := by decide +kernel
theorem dX0_shown_28 : decode cX0_shown 28 = .ok (.iload_n 1, 1) := by decide +kernel
theorem dX0_shown_29 : decode cX0_shown 29 = .ok (.bipush 33, 2) := by decide +kernel
theorem dX0_shown_31 : decode cX0_shown 31 = .ok (.if_icmp .ne 8, 3) := by decide +kernel
theorem dX0_shown_34 : decode cX0_shown 34 = .ok (.aload_n 0, 1) := by decide +kernel
theorem dX0_shown_35 : decode cX0_shown 35 = .ok (.getfield 26, 3) := by decide +kernel
theorem dX0_shown_38 : decode cX0_shown 38 = .ok (.ireturn, 1) := by decide +kernel
theorem dX0_shown_39 : decode cX0_shown 39 = .ok (.iload_n 1, 1) := by decide +kernel
theorem dX0_shown_40 : decode cX0_shown 40 = .ok (.bipush 100, 2) := by decide +kernel
theorem dX0_shown_42 : decode cX0_shown 42 = .ok (.if_icmp .lt 22, 3) := by decide +kernel
theorem dX0_shown_45 : decode cX0_shown 45 = .ok (.iload_n 1, 1) := by decide +kernel
theorem dX0_shown_46 : decode cX0_shown 46 = .ok (.sipush 4196, 3) := by decide +kernel
theorem dX0_shown_49 : decode cX0_shown 49 = .ok (.if_icmp .ge 15, 3) := by decide +kernel
theorem dX0_shown_52 : decode cX0_shown 52 = .ok (.aload_n 0, 1) := by decide +kernel
theorem dX0_shown_53 : decode cX0_shown 53 = .ok (.getfield 11, 3) := by decide +kernel
theorem dX0_shown_56 : decode cX0_shown 56 = .ok (.iload_n 1, 1) := by decide +kernel
theorem dX0_shown_57 : decode cX0_shown 57 = .ok (.bipush 100, 2) := by decide +kernel
theorem dX0_shown_59 : decode cX0_shown 59 = .ok (.isub, 1) := by decide +kernel
theorem dX0_shown_60 : decode cX0_shown 60 = .ok (.iaload, 1) := by decide +kernel
theorem dX0_shown_61 : decode cX0_shown 61 = .ok (.goto 4, 3) := by decide +kernel
theorem dX0_shown_64 : decode cX0_shown 64 = .ok (.iconst (-1), 1) := by decide +kernel
theorem dX0_shown_65 : decode cX0_shown 65 = .ok (.ireturn, 1) := by decide +kernel
theorem dX0_doWords_0 : decode cX0_doWords 0 = .ok (.iconst 0, 1) := by decide +kernel
theorem dX0_doWords_1 : decode cX0_doWords 1 = .ok (.istore_n 2, 1) := by decide +kernel
theorem dX0_doWords_2 : decode cX0_doWords 2 = .ok (.iconst 0, 1) := by decide +kernel
theorem dX0_doWords_3 : decode cX0_doWords 3 = .ok (.istore_n 3, 1) := by decide +kernel
theorem dX0_doWords_4 : decode cX0_doWords 4 = .ok (.iload_n 3, 1) := by decide +kernel
theorem dX0_doWords_5 : decode cX0_doWords 5 = .ok (.iload_n 1, 1) := by decide +kernel
theorem dX0_doWords_6 : decode cX0_doWords 6 = .ok (.if_icmp .ge 18, 3) := by decide +kernel
theorem dX0_doWords_9 : decode cX0_doWords 9 = .ok (.iload_n 2, 1) := by decide +kernel
theorem dX0_doWords_10 : decode cX0_doWords 10 = .ok (.ifCond .ne 14, 3) := by decide +kernel
theorem dX0_doWords_13 : decode cX0_doWords 13 = .ok (.aload_n 0, 1) := by decide +kernel
theorem dX0_doWords_14 : decode cX0_doWords 14 = .ok (.invokevirtual 29, 3) := by decide +kernel
theorem dX0_doWords_17 : decode cX0_doWords 17 = .ok (.istore_n 2, 1) := by decide +kernel
theorem dX0_doWords_18 : decode cX0_doWords 18 = .ok (.iinc 3 1, 3) := by decide +kernel
theorem dX0_doWords_21 : decode cX0_doWords 21 = .ok (.goto (-17), 3) := by decide +kernel
theorem dX0_doWords_24 : decode cX0_doWords 24 = .ok (.iload_n 2, 1) := by decide +kernel
theorem dX0_doWords_25 : decode cX0_doWords 25 = .ok (.ireturn, 1) := by decide +kernel
theorem dX0_doWord_0 : decode cX0_doWord 0 = .ok (.aload_n 0, 1) := by decide +kernel
theorem dX0_doWord_1 : decode cX0_doWord 1 = .ok (.getfield 18, 3) := by decide +kernel
theorem dX0_doWord_4 : decode cX0_doWord 4 = .ok (.iconst 3, 1) := by decide +kernel
theorem dX0_doWord_5 : decode cX0_doWord 5 = .ok (.iand, 1) := by decide +kernel
theorem dX0_doWord_6 : decode cX0_doWord 6 = .ok (.ifCond .ne 20, 3) := by decide +kernel
theorem dX0_doWord_9 : decode cX0_doWord 9 = .ok (.aload_n 0, 1) := by decide +kernel
theorem dX0_doWord_10 : decode cX0_doWord 10 = .ok (.getfield 18, 3) := by decide +kernel
theorem dX0_doWord_13 : decode cX0_doWord 13 = .ok (.ifCond .lt 13, 3) := by decide +kernel
theorem dX0_doWord_16 : decode cX0_doWord 16 = .ok (.aload_n 0, 1) := by decide +kernel
theorem dX0_doWord_17 : decode cX0_doWord 17 = .ok (.getfield 18, 3) := by decide +kernel
theorem dX0_doWord_20 : decode cX0_doWord 20 = .ok (.sipush 16384, 3) := by decide +kernel
theorem dX0_doWord_23 : decode cX0_doWord 23 = .ok (.if_icmp .lt 5, 3) := by decide +kernel
theorem dX0_doWord_26 : decode cX0_doWord 26 = .ok (.iconst 1, 1) := by decide +kernel
theorem dX0_doWord_27 : decode cX0_doWord 27 = .ok (.ireturn, 1) := by decide +kernel
theorem dX0_doWord_28 : decode cX0_doWord 28 = .ok (.aload_n 0, 1) := by decide +kernel
theorem dX0_doWord_29 : decode cX0_doWord 29 = .ok (.getfield 11, 3) := by decide +kernel
theorem dX0_doWord_32 : decode cX0_doWord 32 = .ok (.aload_n 0, 1) := by decide +kernel
theorem dX0_doWord_33 : decode cX0_doWord 33 = .ok (.getfield 18, 3) := by decide +kernel
theorem dX0_doWord_36 : decode cX0_doWord 36 = .ok (.iconst 2, 1) := by decide +kernel
theorem dX0_doWord_37 : decode cX0_doWord 37 = .ok (.ishr, 1) := by decide +kernel
theorem dX0_doWord_38 : decode cX0_doWord 38 = .ok (.iaload, 1) := by decide +kernel
theorem dX0_doWord_39 : decode cX0_doWord 39 = .ok (.istore_n 1, 1) := by decide +kernel
theorem dX0_doWord_40 : decode cX0_doWord 40 = .ok (.aload_n 0, 1) := by decide +kernel
theorem dX0_doWord_41 : decode cX0_doWord 41 = .ok (.aload_n 0, 1) := by decide +kernel
theorem dX0_doWord_42 : decode cX0_doWord 42 = .ok (.getfield 18, 3) := by decide +kernel
theorem dX0_doWord_45 : decode cX0_doWord 45 = .ok (.iconst 4, 1) := by decide +kernel
theorem dX0_doWord_46 : decode cX0_doWord 46 = .ok (.iadd, 1) := by decide +kernel
theorem dX0_doWord_47 : decode cX0_doWord 47 = .ok (.putfield 33, 3) := by decide +kernel
theorem dX0_doWord_50 : decode cX0_doWord 50 = .ok (.aload_n 0, 1) := by decide +kernel
theorem dX0_doWord_51 : decode cX0_doWord 51 = .ok (.iload_n 1, 1) := by decide +kernel
theorem dX0_doWord_52 : decode cX0_doWord 52 = .ok (.invokevirtual 36, 3) := by decide +kernel
theorem dX0_doWord_55 : decode cX0_doWord 55 = .ok (.istore_n 2, 1) := by decide +kernel
theorem dX0_doWord_56 : decode cX0_doWord 56 = .ok (.iload_n 2, 1) := by decide +kernel
theorem dX0_doWord_57 : decode cX0_doWord 57 = .ok (.ifCond .eq 15, 3) := by decide +kernel
theorem dX0_doWord_60 : decode cX0_doWord 60 = .ok (.iload_n 2, 1) := by decide +kernel
theorem dX0_doWord_61 : decode cX0_doWord 61 = .ok (.bipush 6, 2) := by decide +kernel
theorem dX0_doWord_63 : decode cX0_doWord 63 = .ok (.if_icmp .eq 9, 3) := by decide +kernel
theorem dX0_doWord_66 : decode cX0_doWord 66 = .ok (.iload_n 2, 1) := by decide +kernel
theorem dX0_doWord_67 : decode cX0_doWord 67 = .ok (.bipush 7, 2) := by decide +kernel
theorem dX0_doWord_69 : decode cX0_doWord 69 = .ok (.if_icmp .ne 21, 3) := by decide +kernel
theorem dX0_doWord_72 : decode cX0_doWord 72 = .ok (.aload_n 0, 1) := by decide +kernel
theorem dX0_doWord_73 : decode cX0_doWord 73 = .ok (.aload_n 0, 1) := by decide +kernel
theorem dX0_doWord_74 : decode cX0_doWord 74 = .ok (.getfield 33, 3) := by decide +kernel
theorem dX0_doWord_77 : decode cX0_doWord 77 = .ok (.putfield 18, 3) := by decide +kernel
theorem dX0_doWord_80 : decode cX0_doWord 80 = .ok (.aload_n 0, 1) := by decide +kernel
theorem dX0_doWord_81 : decode cX0_doWord 81 = .ok (.dup, 1) := by decide +kernel
theorem dX0_doWord_82 : decode cX0_doWord 82 = .ok (.getfield 26, 3) := by decide +kernel
theorem dX0_doWord_85 : decode cX0_doWord 85 = .ok (.iconst 1, 1) := by decide +kernel
theorem dX0_doWord_86 : decode cX0_doWord 86 = .ok (.iadd, 1) := by decide +kernel
theorem dX0_doWord_87 : decode cX0_doWord 87 = .ok (.putfield 26, 3) := by decide +kernel
theorem dX0_doWord_90 : decode cX0_doWord 90 = .ok (.iload_n 2, 1) := by decide +kernel
theorem dX0_doWord_91 : decode cX0_doWord 91 = .ok (.ireturn, 1) := by decide +kernel
theorem dX0_does_0 : decode cX0_does 0 = .ok (.iload_n 1, 1) := by decide +kernel
theorem dX0_does_1 : decode cX0_does 1 = .ok (.bipush 127, 2) := by decide +kernel
theorem dX0_does_3 : decode cX0_does 3 = .ok (.iand, 1) := by decide +kernel
theorem dX0_does_4 : decode cX0_does 4 = .ok (.lookupswitch 246 #[(3, 206), (15, 230), (19, 218), (23, 109), (35, 212), (51, 224), (55, 92), (99, 200), (103, 152), (111, 131)], 92) := by decide +kernel
theorem dX0_does_96 : decode cX0_does 96 = .ok (.aload_n 0, 1) := by decide +kernel
theorem dX0_does_97 : decode cX0_does 97 = .ok (.iload_n 1, 1) := by decide +kernel
theorem dX0_does_98 : decode cX0_does 98 = .ok (.bipush 7, 2) := by decide +kernel
theorem dX0_does_100 : decode cX0_does 100 = .ok (.iushr, 1) := by decide +kernel
theorem dX0_does_101 : decode cX0_does 101 = .ok (.bipush 31, 2) := by decide +kernel
theorem dX0_does_103 : decode cX0_does 103 = .ok (.iand, 1) := by decide +kernel
theorem dX0_does_104 : decode cX0_does 104 = .ok (.iload_n 1, 1) := by decide +kernel
theorem dX0_does_105 : decode cX0_does 105 = .ok (.sipush (-4096), 3) := by decide +kernel
theorem dX0_does_108 : decode cX0_does 108 = .ok (.iand, 1) := by decide +kernel
theorem dX0_does_109 : decode cX0_does 109 = .ok (.invokevirtual 22, 3) := by decide +kernel
theorem dX0_does_112 : decode cX0_does 112 = .ok (.ireturn, 1) := by decide +kernel
theorem dX0_does_113 : decode cX0_does 113 = .ok (.aload_n 0, 1) := by decide +kernel
theorem dX0_does_114 : decode cX0_does 114 = .ok (.iload_n 1, 1) := by decide +kernel
theorem dX0_does_115 : decode cX0_does 115 = .ok (.bipush 7, 2) := by decide +kernel
theorem dX0_does_117 : decode cX0_does 117 = .ok (.iushr, 1) := by decide +kernel
theorem dX0_does_118 : decode cX0_does 118 = .ok (.bipush 31, 2) := by decide +kernel
theorem dX0_does_120 : decode cX0_does 120 = .ok (.iand, 1) := by decide +kernel
theorem dX0_does_121 : decode cX0_does 121 = .ok (.aload_n 0, 1) := by decide +kernel
theorem dX0_does_122 : decode cX0_does 122 = .ok (.getfield 18, 3) := by decide +kernel
theorem dX0_does_125 : decode cX0_does 125 = .ok (.iload_n 1, 1) := by decide +kernel
theorem dX0_does_126 : decode cX0_does 126 = .ok (.sipush (-4096), 3) := by decide +kernel
theorem dX0_does_129 : decode cX0_does 129 = .ok (.iand, 1) := by decide +kernel
theorem dX0_does_130 : decode cX0_does 130 = .ok (.iadd, 1) := by decide +kernel
theorem dX0_does_131 : decode cX0_does 131 = .ok (.invokevirtual 22, 3) := by decide +kernel
theorem dX0_does_134 : decode cX0_does 134 = .ok (.ireturn, 1) := by decide +kernel
theorem dX0_does_135 : decode cX0_does 135 = .ok (.aload_n 0, 1) := by decide +kernel
theorem dX0_does_136 : decode cX0_does 136 = .ok (.iload_n 1, 1) := by decide +kernel
theorem dX0_does_137 : decode cX0_does 137 = .ok (.bipush 7, 2) := by decide +kernel
theorem dX0_does_139 : decode cX0_does 139 = .ok (.iushr, 1) := by decide +kernel
theorem dX0_does_140 : decode cX0_does 140 = .ok (.bipush 31, 2) := by decide +kernel
theorem dX0_does_142 : decode cX0_does 142 = .ok (.iand, 1) := by decide +kernel
theorem dX0_does_143 : decode cX0_does 143 = .ok (.aload_n 0, 1) := by decide +kernel
theorem dX0_does_144 : decode cX0_does 144 = .ok (.getfield 18, 3) := by decide +kernel
theorem dX0_does_147 : decode cX0_does 147 = .ok (.iload_n 1, 1) := by decide +kernel
theorem dX0_does_148 : decode cX0_does 148 = .ok (.invokestatic 40, 3) := by decide +kernel
theorem dX0_does_151 : decode cX0_does 151 = .ok (.iadd, 1) := by decide +kernel
theorem dX0_does_152 : decode cX0_does 152 = .ok (.invokevirtual 43, 3) := by decide +kernel
theorem dX0_does_155 : decode cX0_does 155 = .ok (.ireturn, 1) := by decide +kernel
theorem dX0_does_156 : decode cX0_does 156 = .ok (.aload_n 0, 1) := by decide +kernel
theorem dX0_does_157 : decode cX0_does 157 = .ok (.getfield 15, 3) := by decide +kernel
theorem dX0_does_160 : decode cX0_does 160 = .ok (.iload_n 1, 1) := by decide +kernel
theorem dX0_does_161 : decode cX0_does 161 = .ok (.bipush 15, 2) := by decide +kernel
theorem dX0_does_163 : decode cX0_does 163 = .ok (.iushr, 1) := by decide +kernel
theorem dX0_does_164 : decode cX0_does 164 = .ok (.bipush 31, 2) := by decide +kernel
theorem dX0_does_166 : decode cX0_does 166 = .ok (.iand, 1) := by decide +kernel
theorem dX0_does_167 : decode cX0_does 167 = .ok (.iaload, 1) := by decide +kernel
theorem dX0_does_168 : decode cX0_does 168 = .ok (.iload_n 1, 1) := by decide +kernel
theorem dX0_does_169 : decode cX0_does 169 = .ok (.bipush 20, 2) := by decide +kernel
theorem dX0_does_171 : decode cX0_does 171 = .ok (.ishr, 1) := by decide +kernel
theorem dX0_does_172 : decode cX0_does 172 = .ok (.iadd, 1) := by decide +kernel
theorem dX0_does_173 : decode cX0_does 173 = .ok (.bipush (-2), 2) := by decide +kernel
theorem dX0_does_175 : decode cX0_does 175 = .ok (.iand, 1) := by decide +kernel
theorem dX0_does_176 : decode cX0_does 176 = .ok (.istore_n 2, 1) := by decide +kernel
theorem dX0_does_177 : decode cX0_does 177 = .ok (.iload_n 1, 1) := by decide +kernel
theorem dX0_does_178 : decode cX0_does 178 = .ok (.bipush 12, 2) := by decide +kernel
theorem dX0_does_180 : decode cX0_does 180 = .ok (.iushr, 1) := by decide +kernel
theorem dX0_does_181 : decode cX0_does 181 = .ok (.bipush 7, 2) := by decide +kernel
theorem dX0_does_183 : decode cX0_does 183 = .ok (.iand, 1) := by decide +kernel
theorem dX0_does_184 : decode cX0_does 184 = .ok (.ifCond .ne 18, 3) := by decide +kernel
theorem dX0_does_187 : decode cX0_does 187 = .ok (.aload_n 0, 1) := by decide +kernel
theorem dX0_does_188 : decode cX0_does 188 = .ok (.iload_n 1, 1) := by decide +kernel
theorem dX0_does_189 : decode cX0_does 189 = .ok (.bipush 7, 2) := by decide +kernel
theorem dX0_does_191 : decode cX0_does 191 = .ok (.iushr, 1) := by decide +kernel
theorem dX0_does_192 : decode cX0_does 192 = .ok (.bipush 31, 2) := by decide +kernel
theorem dX0_does_194 : decode cX0_does 194 = .ok (.iand, 1) := by decide +kernel
theorem dX0_does_195 : decode cX0_does 195 = .ok (.iload_n 2, 1) := by decide +kernel
theorem dX0_does_196 : decode cX0_does 196 = .ok (.invokevirtual 43, 3) := by decide +kernel
theorem dX0_does_199 : decode cX0_does 199 = .ok (.goto 4, 3) := by decide +kernel
theorem dX0_does_202 : decode cX0_does 202 = .ok (.iconst 2, 1) := by decide +kernel
theorem dX0_does_203 : decode cX0_does 203 = .ok (.ireturn, 1) := by decide +kernel
theorem dX0_does_204 : decode cX0_does 204 = .ok (.aload_n 0, 1) := by decide +kernel
theorem dX0_does_205 : decode cX0_does 205 = .ok (.iload_n 1, 1) := by decide +kernel
theorem dX0_does_206 : decode cX0_does 206 = .ok (.invokevirtual 46, 3) := by decide +kernel
theorem dX0_does_209 : decode cX0_does 209 = .ok (.ireturn, 1) := by decide +kernel
theorem dX0_does_210 : decode cX0_does 210 = .ok (.aload_n 0, 1) := by decide +kernel
theorem dX0_does_211 : decode cX0_does 211 = .ok (.iload_n 1, 1) := by decide +kernel
theorem dX0_does_212 : decode cX0_does 212 = .ok (.invokevirtual 49, 3) := by decide +kernel
theorem dX0_does_215 : decode cX0_does 215 = .ok (.ireturn, 1) := by decide +kernel
theorem dX0_does_216 : decode cX0_does 216 = .ok (.aload_n 0, 1) := by decide +kernel
theorem dX0_does_217 : decode cX0_does 217 = .ok (.iload_n 1, 1) := by decide +kernel
theorem dX0_does_218 : decode cX0_does 218 = .ok (.invokevirtual 52, 3) := by decide +kernel
theorem dX0_does_221 : decode cX0_does 221 = .ok (.ireturn, 1) := by decide +kernel
theorem dX0_does_222 : decode cX0_does 222 = .ok (.aload_n 0, 1) := by decide +kernel
theorem dX0_does_223 : decode cX0_does 223 = .ok (.iload_n 1, 1) := by decide +kernel
theorem dX0_does_224 : decode cX0_does 224 = .ok (.invokevirtual 55, 3) := by decide +kernel
theorem dX0_does_227 : decode cX0_does 227 = .ok (.ireturn, 1) := by decide +kernel
theorem dX0_does_228 : decode cX0_does 228 = .ok (.aload_n 0, 1) := by decide +kernel
theorem dX0_does_229 : decode cX0_does 229 = .ok (.iload_n 1, 1) := by decide +kernel
theorem dX0_does_230 : decode cX0_does 230 = .ok (.invokevirtual 58, 3) := by decide +kernel
theorem dX0_does_233 : decode cX0_does 233 = .ok (.ireturn, 1) := by decide +kernel
theorem dX0_does_234 : decode cX0_does 234 = .ok (.iload_n 1, 1) := by decide +kernel
theorem dX0_does_235 : decode cX0_does 235 = .ok (.bipush 12, 2) := by decide +kernel
theorem dX0_does_237 : decode cX0_does 237 = .ok (.iushr, 1) := by decide +kernel
theorem dX0_does_238 : decode cX0_does 238 = .ok (.bipush 7, 2) := by decide +kernel
theorem dX0_does_240 : decode cX0_does 240 = .ok (.iand, 1) := by decide +kernel
theorem dX0_does_241 : decode cX0_does 241 = .ok (.ifCond .ne 7, 3) := by decide +kernel
theorem dX0_does_244 : decode cX0_does 244 = .ok (.iconst 0, 1) := by decide +kernel
theorem dX0_does_245 : decode cX0_does 245 = .ok (.goto 4, 3) := by decide +kernel
theorem dX0_does_248 : decode cX0_does 248 = .ok (.iconst 2, 1) := by decide +kernel
theorem dX0_does_249 : decode cX0_does 249 = .ok (.ireturn, 1) := by decide +kernel
theorem dX0_does_250 : decode cX0_does 250 = .ok (.iload_n 1, 1) := by decide +kernel
theorem dX0_does_251 : decode cX0_does 251 = .ok (.bipush 115, 2) := by decide +kernel
theorem dX0_does_253 : decode cX0_does 253 = .ok (.if_icmp .ne 8, 3) := by decide +kernel
theorem dX0_does_256 : decode cX0_does 256 = .ok (.bipush 6, 2) := by decide +kernel
theorem dX0_does_258 : decode cX0_does 258 = .ok (.goto 15, 3) := by decide +kernel
theorem dX0_does_261 : decode cX0_does 261 = .ok (.iload_n 1, 1) := by decide +kernel
theorem dX0_does_262 : decode cX0_does 262 = .ok (.ldc 61, 2) := by decide +kernel
theorem dX0_does_264 : decode cX0_does 264 = .ok (.if_icmp .ne 8, 3) := by decide +kernel
theorem dX0_does_267 : decode cX0_does 267 = .ok (.bipush 7, 2) := by decide +kernel
theorem dX0_does_269 : decode cX0_does 269 = .ok (.goto 4, 3) := by decide +kernel
theorem dX0_does_272 : decode cX0_does 272 = .ok (.iconst 2, 1) := by decide +kernel
theorem dX0_does_273 : decode cX0_does 273 = .ok (.ireturn, 1) := by decide +kernel
theorem dX0_keep_0 : decode cX0_keep 0 = .ok (.iload_n 1, 1) := by decide +kernel
theorem dX0_keep_1 : decode cX0_keep 1 = .ok (.ifCond .le 16, 3) := by decide +kernel
theorem dX0_keep_4 : decode cX0_keep 4 = .ok (.iload_n 1, 1) := by decide +kernel
theorem dX0_keep_5 : decode cX0_keep 5 = .ok (.bipush 32, 2) := by decide +kernel
theorem dX0_keep_7 : decode cX0_keep 7 = .ok (.if_icmp .ge 10, 3) := by decide +kernel
theorem dX0_keep_10 : decode cX0_keep 10 = .ok (.aload_n 0, 1) := by decide +kernel
theorem dX0_keep_11 : decode cX0_keep 11 = .ok (.getfield 15, 3) := by decide +kernel
theorem dX0_keep_14 : decode cX0_keep 14 = .ok (.iload_n 1, 1) := by decide +kernel
theorem dX0_keep_15 : decode cX0_keep 15 = .ok (.iload_n 2, 1) := by decide +kernel
theorem dX0_keep_16 : decode cX0_keep 16 = .ok (.iastore, 1) := by decide +kernel
theorem dX0_keep_17 : decode cX0_keep 17 = .ok (.iconst 0, 1) := by decide +kernel
theorem dX0_keep_18 : decode cX0_keep 18 = .ok (.ireturn, 1) := by decide +kernel
theorem dX0_offsetJ_0 : decode cX0_offsetJ 0 = .ok (.iload_n 0, 1) := by decide +kernel
theorem dX0_offsetJ_1 : decode cX0_offsetJ 1 = .ok (.bipush 31, 2) := by decide +kernel
theorem dX0_offsetJ_3 : decode cX0_offsetJ 3 = .ok (.ishr, 1) := by decide +kernel
theorem dX0_offsetJ_4 : decode cX0_offsetJ 4 = .ok (.bipush 20, 2) := by decide +kernel
theorem dX0_offsetJ_6 : decode cX0_offsetJ 6 = .ok (.ishl, 1) := by decide +kernel
theorem dX0_offsetJ_7 : decode cX0_offsetJ 7 = .ok (.iload_n 0, 1) := by decide +kernel
theorem dX0_offsetJ_8 : decode cX0_offsetJ 8 = .ok (.ldc 62, 2) := by decide +kernel
theorem dX0_offsetJ_10 : decode cX0_offsetJ 10 = .ok (.iand, 1) := by decide +kernel
theorem dX0_offsetJ_11 : decode cX0_offsetJ 11 = .ok (.ior, 1) := by decide +kernel
theorem dX0_offsetJ_12 : decode cX0_offsetJ 12 = .ok (.iload_n 0, 1) := by decide +kernel
theorem dX0_offsetJ_13 : decode cX0_offsetJ 13 = .ok (.bipush 20, 2) := by decide +kernel
theorem dX0_offsetJ_15 : decode cX0_offsetJ 15 = .ok (.iushr, 1) := by decide +kernel
theorem dX0_offsetJ_16 : decode cX0_offsetJ 16 = .ok (.iconst 1, 1) := by decide +kernel
theorem dX0_offsetJ_17 : decode cX0_offsetJ 17 = .ok (.iand, 1) := by decide +kernel
theorem dX0_offsetJ_18 : decode cX0_offsetJ 18 = .ok (.bipush 11, 2) := by decide +kernel
theorem dX0_offsetJ_20 : decode cX0_offsetJ 20 = .ok (.ishl, 1) := by decide +kernel
theorem dX0_offsetJ_21 : decode cX0_offsetJ 21 = .ok (.ior, 1) := by decide +kernel
theorem dX0_offsetJ_22 : decode cX0_offsetJ 22 = .ok (.iload_n 0, 1) := by decide +kernel
theorem dX0_offsetJ_23 : decode cX0_offsetJ 23 = .ok (.bipush 21, 2) := by decide +kernel
theorem dX0_offsetJ_25 : decode cX0_offsetJ 25 = .ok (.iushr, 1) := by decide +kernel
theorem dX0_offsetJ_26 : decode cX0_offsetJ 26 = .ok (.sipush 1023, 3) := by decide +kernel
theorem dX0_offsetJ_29 : decode cX0_offsetJ 29 = .ok (.iand, 1) := by decide +kernel
theorem dX0_offsetJ_30 : decode cX0_offsetJ 30 = .ok (.iconst 1, 1) := by decide +kernel
theorem dX0_offsetJ_31 : decode cX0_offsetJ 31 = .ok (.ishl, 1) := by decide +kernel
theorem dX0_offsetJ_32 : decode cX0_offsetJ 32 = .ok (.ior, 1) := by decide +kernel
theorem dX0_offsetJ_33 : decode cX0_offsetJ 33 = .ok (.ireturn, 1) := by decide +kernel
theorem dX0_offsetB_0 : decode cX0_offsetB 0 = .ok (.iload_n 0, 1) := by decide +kernel
theorem dX0_offsetB_1 : decode cX0_offsetB 1 = .ok (.bipush 31, 2) := by decide +kernel
theorem dX0_offsetB_3 : decode cX0_offsetB 3 = .ok (.ishr, 1) := by decide +kernel
theorem dX0_offsetB_4 : decode cX0_offsetB 4 = .ok (.bipush 12, 2) := by decide +kernel
theorem dX0_offsetB_6 : decode cX0_offsetB 6 = .ok (.ishl, 1) := by decide +kernel
theorem dX0_offsetB_7 : decode cX0_offsetB 7 = .ok (.iload_n 0, 1) := by decide +kernel
theorem dX0_offsetB_8 : decode cX0_offsetB 8 = .ok (.bipush 7, 2) := by decide +kernel
theorem dX0_offsetB_10 : decode cX0_offsetB 10 = .ok (.iushr, 1) := by decide +kernel
theorem dX0_offsetB_11 : decode cX0_offsetB 11 = .ok (.iconst 1, 1) := by decide +kernel
theorem dX0_offsetB_12 : decode cX0_offsetB 12 = .ok (.iand, 1) := by decide +kernel
theorem dX0_offsetB_13 : decode cX0_offsetB 13 = .ok (.bipush 11, 2) := by decide +kernel
theorem dX0_offsetB_15 : decode cX0_offsetB 15 = .ok (.ishl, 1) := by decide +kernel
theorem dX0_offsetB_16 : decode cX0_offsetB 16 = .ok (.ior, 1) := by decide +kernel
theorem dX0_offsetB_17 : decode cX0_offsetB 17 = .ok (.iload_n 0, 1) := by decide +kernel
theorem dX0_offsetB_18 : decode cX0_offsetB 18 = .ok (.bipush 25, 2) := by decide +kernel
theorem dX0_offsetB_20 : decode cX0_offsetB 20 = .ok (.iushr, 1) := by decide +kernel
theorem dX0_offsetB_21 : decode cX0_offsetB 21 = .ok (.bipush 63, 2) := by decide +kernel
theorem dX0_offsetB_23 : decode cX0_offsetB 23 = .ok (.iand, 1) := by decide +kernel
theorem dX0_offsetB_24 : decode cX0_offsetB 24 = .ok (.iconst 5, 1) := by decide +kernel
theorem dX0_offsetB_25 : decode cX0_offsetB 25 = .ok (.ishl, 1) := by decide +kernel
theorem dX0_offsetB_26 : decode cX0_offsetB 26 = .ok (.ior, 1) := by decide +kernel
theorem dX0_offsetB_27 : decode cX0_offsetB 27 = .ok (.iload_n 0, 1) := by decide +kernel
theorem dX0_offsetB_28 : decode cX0_offsetB 28 = .ok (.bipush 8, 2) := by decide +kernel
theorem dX0_offsetB_30 : decode cX0_offsetB 30 = .ok (.iushr, 1) := by decide +kernel
theorem dX0_offsetB_31 : decode cX0_offsetB 31 = .ok (.bipush 15, 2) := by decide +kernel
theorem dX0_offsetB_33 : decode cX0_offsetB 33 = .ok (.iand, 1) := by decide +kernel
theorem dX0_offsetB_34 : decode cX0_offsetB 34 = .ok (.iconst 1, 1) := by decide +kernel
theorem dX0_offsetB_35 : decode cX0_offsetB 35 = .ok (.ishl, 1) := by decide +kernel
theorem dX0_offsetB_36 : decode cX0_offsetB 36 = .ok (.ior, 1) := by decide +kernel
theorem dX0_offsetB_37 : decode cX0_offsetB 37 = .ok (.ireturn, 1) := by decide +kernel
theorem dX0_link_0 : decode cX0_link 0 = .ok (.iload_n 2, 1) := by decide +kernel
theorem dX0_link_1 : decode cX0_link 1 = .ok (.iconst 3, 1) := by decide +kernel
theorem dX0_link_2 : decode cX0_link 2 = .ok (.iand, 1) := by decide +kernel
theorem dX0_link_3 : decode cX0_link 3 = .ok (.ifCond .eq 5, 3) := by decide +kernel
theorem dX0_link_6 : decode cX0_link 6 = .ok (.iconst 3, 1) := by decide +kernel
theorem dX0_link_7 : decode cX0_link 7 = .ok (.ireturn, 1) := by decide +kernel
theorem dX0_link_8 : decode cX0_link 8 = .ok (.aload_n 0, 1) := by decide +kernel
theorem dX0_link_9 : decode cX0_link 9 = .ok (.iload_n 2, 1) := by decide +kernel
theorem dX0_link_10 : decode cX0_link 10 = .ok (.putfield 33, 3) := by decide +kernel
theorem dX0_link_13 : decode cX0_link 13 = .ok (.aload_n 0, 1) := by decide +kernel
theorem dX0_link_14 : decode cX0_link 14 = .ok (.iload_n 1, 1) := by decide +kernel
theorem dX0_link_15 : decode cX0_link 15 = .ok (.aload_n 0, 1) := by decide +kernel
theorem dX0_link_16 : decode cX0_link 16 = .ok (.getfield 18, 3) := by decide +kernel
theorem dX0_link_19 : decode cX0_link 19 = .ok (.iconst 4, 1) := by decide +kernel
theorem dX0_link_20 : decode cX0_link 20 = .ok (.iadd, 1) := by decide +kernel
theorem dX0_link_21 : decode cX0_link 21 = .ok (.invokevirtual 22, 3) := by decide +kernel
theorem dX0_link_24 : decode cX0_link 24 = .ok (.ireturn, 1) := by decide +kernel
theorem dX0_branch_0 : decode cX0_branch 0 = .ok (.iload_n 1, 1) := by decide +kernel
theorem dX0_branch_1 : decode cX0_branch 1 = .ok (.bipush 12, 2) := by decide +kernel
theorem dX0_branch_3 : decode cX0_branch 3 = .ok (.iushr, 1) := by decide +kernel
theorem dX0_branch_4 : decode cX0_branch 4 = .ok (.bipush 7, 2) := by decide +kernel
theorem dX0_branch_6 : decode cX0_branch 6 = .ok (.iand, 1) := by decide +kernel
theorem dX0_branch_7 : decode cX0_branch 7 = .ok (.istore_n 2, 1) := by decide +kernel
theorem dX0_branch_8 : decode cX0_branch 8 = .ok (.aload_n 0, 1) := by decide +kernel
theorem dX0_branch_9 : decode cX0_branch 9 = .ok (.getfield 15, 3) := by decide +kernel
theorem dX0_branch_12 : decode cX0_branch 12 = .ok (.iload_n 1, 1) := by decide +kernel
theorem dX0_branch_13 : decode cX0_branch 13 = .ok (.bipush 15, 2) := by decide +kernel
theorem dX0_branch_15 : decode cX0_branch 15 = .ok (.iushr, 1) := by decide +kernel
theorem dX0_branch_16 : decode cX0_branch 16 = .ok (.bipush 31, 2) := by decide +kernel
theorem dX0_branch_18 : decode cX0_branch 18 = .ok (.iand, 1) := by decide +kernel
theorem dX0_branch_19 : decode cX0_branch 19 = .ok (.iaload, 1) := by decide +kernel
theorem dX0_branch_20 : decode cX0_branch 20 = .ok (.istore_n 3, 1) := by decide +kernel
theorem dX0_branch_21 : decode cX0_branch 21 = .ok (.aload_n 0, 1) := by decide +kernel
theorem dX0_branch_22 : decode cX0_branch 22 = .ok (.getfield 15, 3) := by decide +kernel
theorem dX0_branch_25 : decode cX0_branch 25 = .ok (.iload_n 1, 1) := by decide +kernel
theorem dX0_branch_26 : decode cX0_branch 26 = .ok (.bipush 20, 2) := by decide +kernel
theorem dX0_branch_28 : decode cX0_branch 28 = .ok (.iushr, 1) := by decide +kernel
theorem dX0_branch_29 : decode cX0_branch 29 = .ok (.bipush 31, 2) := by decide +kernel
theorem dX0_branch_31 : decode cX0_branch 31 = .ok (.iand, 1) := by decide +kernel
theorem dX0_branch_32 : decode cX0_branch 32 = .ok (.iaload, 1) := by decide +kernel
theorem dX0_branch_33 : decode cX0_branch 33 = .ok (.istore 4, 2) := by decide +kernel
theorem dX0_branch_35 : decode cX0_branch 35 = .ok (.iload_n 2, 1) := by decide +kernel
theorem dX0_branch_36 : decode cX0_branch 36 = .ok (.iconst 2, 1) := by decide +kernel
theorem dX0_branch_37 : decode cX0_branch 37 = .ok (.if_icmp .eq 8, 3) := by decide +kernel
theorem dX0_branch_40 : decode cX0_branch 40 = .ok (.iload_n 2, 1) := by decide +kernel
theorem dX0_branch_41 : decode cX0_branch 41 = .ok (.iconst 3, 1) := by decide +kernel
theorem dX0_branch_42 : decode cX0_branch 42 = .ok (.if_icmp .ne 5, 3) := by decide +kernel
theorem dX0_branch_45 : decode cX0_branch 45 = .ok (.iconst 2, 1) := by decide +kernel
theorem dX0_branch_46 : decode cX0_branch 46 = .ok (.ireturn, 1) := by decide +kernel
theorem dX0_branch_47 : decode cX0_branch 47 = .ok (.iload_n 2, 1) := by decide +kernel
theorem dX0_branch_48 : decode cX0_branch 48 = .ok (.iconst 2, 1) := by decide +kernel
theorem dX0_branch_49 : decode cX0_branch 49 = .ok (.if_icmp .ge 19, 3) := by decide +kernel
theorem dX0_branch_52 : decode cX0_branch 52 = .ok (.iload_n 3, 1) := by decide +kernel
theorem dX0_branch_53 : decode cX0_branch 53 = .ok (.iload 4, 2) := by decide +kernel
theorem dX0_branch_55 : decode cX0_branch 55 = .ok (.if_icmp .ne 7, 3) := by decide +kernel
theorem dX0_branch_58 : decode cX0_branch 58 = .ok (.iconst 1, 1) := by decide +kernel
theorem dX0_branch_59 : decode cX0_branch 59 = .ok (.goto 4, 3) := by decide +kernel
theorem dX0_branch_62 : decode cX0_branch 62 = .ok (.iconst 0, 1) := by decide +kernel
theorem dX0_branch_63 : decode cX0_branch 63 = .ok (.istore 5, 2) := by decide +kernel
theorem dX0_branch_65 : decode cX0_branch 65 = .ok (.goto 33, 3) := by decide +kernel
theorem dX0_branch_68 : decode cX0_branch 68 = .ok (.iload_n 2, 1) := by decide +kernel
theorem dX0_branch_69 : decode cX0_branch 69 = .ok (.bipush 6, 2) := by decide +kernel
theorem dX0_branch_71 : decode cX0_branch 71 = .ok (.if_icmp .ge 19, 3) := by decide +kernel
theorem dX0_branch_74 : decode cX0_branch 74 = .ok (.iload_n 3, 1) := by decide +kernel
theorem dX0_branch_75 : decode cX0_branch 75 = .ok (.iload 4, 2) := by decide +kernel
theorem dX0_branch_77 : decode cX0_branch 77 = .ok (.if_icmp .ge 7, 3) := by decide +kernel
theorem dX0_branch_80 : decode cX0_branch 80 = .ok (.iconst 1, 1) := by decide +kernel
theorem dX0_branch_81 : decode cX0_branch 81 = .ok (.goto 4, 3) := by decide +kernel
theorem dX0_branch_84 : decode cX0_branch 84 = .ok (.iconst 0, 1) := by decide +kernel
theorem dX0_branch_85 : decode cX0_branch 85 = .ok (.istore 5, 2) := by decide +kernel
theorem dX0_branch_87 : decode cX0_branch 87 = .ok (.goto 11, 3) := by decide +kernel
theorem dX0_branch_90 : decode cX0_branch 90 = .ok (.iload_n 3, 1) := by decide +kernel
theorem dX0_branch_91 : decode cX0_branch 91 = .ok (.iload 4, 2) := by decide +kernel
theorem dX0_branch_93 : decode cX0_branch 93 = .ok (.invokestatic 63, 3) := by decide +kernel
theorem dX0_branch_96 : decode cX0_branch 96 = .ok (.istore 5, 2) := by decide +kernel
theorem dX0_branch_98 : decode cX0_branch 98 = .ok (.iload 5, 2) := by decide +kernel
theorem dX0_branch_100 : decode cX0_branch 100 = .ok (.iload_n 2, 1) := by decide +kernel
theorem dX0_branch_101 : decode cX0_branch 101 = .ok (.iconst 1, 1) := by decide +kernel
theorem dX0_branch_102 : decode cX0_branch 102 = .ok (.iand, 1) := by decide +kernel
theorem dX0_branch_103 : decode cX0_branch 103 = .ok (.iconst 1, 1) := by decide +kernel
theorem dX0_branch_104 : decode cX0_branch 104 = .ok (.if_icmp .ne 7, 3) := by decide +kernel
theorem dX0_branch_107 : decode cX0_branch 107 = .ok (.iconst 1, 1) := by decide +kernel
theorem dX0_branch_108 : decode cX0_branch 108 = .ok (.goto 4, 3) := by decide +kernel
theorem dX0_branch_111 : decode cX0_branch 111 = .ok (.iconst 0, 1) := by decide +kernel
theorem dX0_branch_112 : decode cX0_branch 112 = .ok (.if_icmp .ne 5, 3) := by decide +kernel
theorem dX0_branch_115 : decode cX0_branch 115 = .ok (.iconst 0, 1) := by decide +kernel
theorem dX0_branch_116 : decode cX0_branch 116 = .ok (.ireturn, 1) := by decide +kernel
theorem dX0_branch_117 : decode cX0_branch 117 = .ok (.aload_n 0, 1) := by decide +kernel
theorem dX0_branch_118 : decode cX0_branch 118 = .ok (.getfield 18, 3) := by decide +kernel
theorem dX0_branch_121 : decode cX0_branch 121 = .ok (.iload_n 1, 1) := by decide +kernel
theorem dX0_branch_122 : decode cX0_branch 122 = .ok (.invokestatic 67, 3) := by decide +kernel
theorem dX0_branch_125 : decode cX0_branch 125 = .ok (.iadd, 1) := by decide +kernel
theorem dX0_branch_126 : decode cX0_branch 126 = .ok (.istore 6, 2) := by decide +kernel
theorem dX0_branch_128 : decode cX0_branch 128 = .ok (.iload 6, 2) := by decide +kernel
theorem dX0_branch_130 : decode cX0_branch 130 = .ok (.iconst 3, 1) := by decide +kernel
theorem dX0_branch_131 : decode cX0_branch 131 = .ok (.iand, 1) := by decide +kernel
theorem dX0_branch_132 : decode cX0_branch 132 = .ok (.ifCond .eq 5, 3) := by decide +kernel
theorem dX0_branch_135 : decode cX0_branch 135 = .ok (.iconst 3, 1) := by decide +kernel
theorem dX0_branch_136 : decode cX0_branch 136 = .ok (.ireturn, 1) := by decide +kernel
theorem dX0_branch_137 : decode cX0_branch 137 = .ok (.aload_n 0, 1) := by decide +kernel
theorem dX0_branch_138 : decode cX0_branch 138 = .ok (.iload 6, 2) := by decide +kernel
theorem dX0_branch_140 : decode cX0_branch 140 = .ok (.putfield 33, 3) := by decide +kernel
theorem dX0_branch_143 : decode cX0_branch 143 = .ok (.iconst 0, 1) := by decide +kernel
theorem dX0_branch_144 : decode cX0_branch 144 = .ok (.ireturn, 1) := by decide +kernel
theorem dX0_isBelow_0 : decode cX0_isBelow 0 = .ok (.iload_n 0, 1) := by decide +kernel
theorem dX0_isBelow_1 : decode cX0_isBelow 1 = .ok (.i2l, 1) := by decide +kernel
theorem dX0_isBelow_2 : decode cX0_isBelow 2 = .ok (.ldc2_w 70, 3) := by decide +kernel
theorem dX0_isBelow_5 : decode cX0_isBelow 5 = .ok (.land, 1) := by decide +kernel
theorem dX0_isBelow_6 : decode cX0_isBelow 6 = .ok (.iload_n 1, 1) := by decide +kernel
theorem dX0_isBelow_7 : decode cX0_isBelow 7 = .ok (.i2l, 1) := by decide +kernel
theorem dX0_isBelow_8 : decode cX0_isBelow 8 = .ok (.ldc2_w 70, 3) := by decide +kernel
theorem dX0_isBelow_11 : decode cX0_isBelow 11 = .ok (.land, 1) := by decide +kernel
theorem dX0_isBelow_12 : decode cX0_isBelow 12 = .ok (.lcmp, 1) := by decide +kernel
theorem dX0_isBelow_13 : decode cX0_isBelow 13 = .ok (.ifCond .ge 7, 3) := by decide +kernel
theorem dX0_isBelow_16 : decode cX0_isBelow 16 = .ok (.iconst 1, 1) := by decide +kernel
theorem dX0_isBelow_17 : decode cX0_isBelow 17 = .ok (.goto 4, 3) := by decide +kernel
theorem dX0_isBelow_20 : decode cX0_isBelow 20 = .ok (.iconst 0, 1) := by decide +kernel
theorem dX0_isBelow_21 : decode cX0_isBelow 21 = .ok (.ireturn, 1) := by decide +kernel
theorem dX0_reach_0 : decode cX0_reach 0 = .ok (.iload_n 0, 1) := by decide +kernel
theorem dX0_reach_1 : decode cX0_reach 1 = .ok (.iload_n 1, 1) := by decide +kernel
theorem dX0_reach_2 : decode cX0_reach 2 = .ok (.iconst 1, 1) := by decide +kernel
theorem dX0_reach_3 : decode cX0_reach 3 = .ok (.isub, 1) := by decide +kernel
theorem dX0_reach_4 : decode cX0_reach 4 = .ok (.iand, 1) := by decide +kernel
theorem dX0_reach_5 : decode cX0_reach 5 = .ok (.ifCond .eq 5, 3) := by decide +kernel
theorem dX0_reach_8 : decode cX0_reach 8 = .ok (.iconst 4, 1) := by decide +kernel
theorem dX0_reach_9 : decode cX0_reach 9 = .ok (.ireturn, 1) := by decide +kernel
theorem dX0_reach_10 : decode cX0_reach 10 = .ok (.iload_n 0, 1) := by decide +kernel
theorem dX0_reach_11 : decode cX0_reach 11 = .ok (.ifCond .lt 12, 3) := by decide +kernel
theorem dX0_reach_14 : decode cX0_reach 14 = .ok (.iload_n 0, 1) := by decide +kernel
theorem dX0_reach_15 : decode cX0_reach 15 = .ok (.sipush 16384, 3) := by decide +kernel
theorem dX0_reach_18 : decode cX0_reach 18 = .ok (.iload_n 1, 1) := by decide +kernel
theorem dX0_reach_19 : decode cX0_reach 19 = .ok (.isub, 1) := by decide +kernel
theorem dX0_reach_20 : decode cX0_reach 20 = .ok (.if_icmp .le 7, 3) := by decide +kernel
theorem dX0_reach_23 : decode cX0_reach 23 = .ok (.iconst 5, 1) := by decide +kernel
theorem dX0_reach_24 : decode cX0_reach 24 = .ok (.goto 4, 3) := by decide +kernel
theorem dX0_reach_27 : decode cX0_reach 27 = .ok (.iconst 0, 1) := by decide +kernel
theorem dX0_reach_28 : decode cX0_reach 28 = .ok (.ireturn, 1) := by decide +kernel
theorem dX0_load_0 : decode cX0_load 0 = .ok (.iload_n 1, 1) := by decide +kernel
theorem dX0_load_1 : decode cX0_load 1 = .ok (.bipush 12, 2) := by decide +kernel
theorem dX0_load_3 : decode cX0_load 3 = .ok (.iushr, 1) := by decide +kernel
theorem dX0_load_4 : decode cX0_load 4 = .ok (.bipush 7, 2) := by decide +kernel
theorem dX0_load_6 : decode cX0_load 6 = .ok (.iand, 1) := by decide +kernel
theorem dX0_load_7 : decode cX0_load 7 = .ok (.istore_n 2, 1) := by decide +kernel
theorem dX0_load_8 : decode cX0_load 8 = .ok (.iload_n 2, 1) := by decide +kernel
theorem dX0_load_9 : decode cX0_load 9 = .ok (.iconst 3, 1) := by decide +kernel
theorem dX0_load_10 : decode cX0_load 10 = .ok (.if_icmp .eq 8, 3) := by decide +kernel
theorem dX0_load_13 : decode cX0_load 13 = .ok (.iload_n 2, 1) := by decide +kernel
theorem dX0_load_14 : decode cX0_load 14 = .ok (.iconst 5, 1) := by decide +kernel
theorem dX0_load_15 : decode cX0_load 15 = .ok (.if_icmp .le 5, 3) := by decide +kernel
theorem dX0_load_18 : decode cX0_load 18 = .ok (.iconst 2, 1) := by decide +kernel
theorem dX0_load_19 : decode cX0_load 19 = .ok (.ireturn, 1) := by decide +kernel
theorem dX0_load_20 : decode cX0_load 20 = .ok (.iconst 1, 1) := by decide +kernel
theorem dX0_load_21 : decode cX0_load 21 = .ok (.iload_n 2, 1) := by decide +kernel
theorem dX0_load_22 : decode cX0_load 22 = .ok (.iconst 3, 1) := by decide +kernel
theorem dX0_load_23 : decode cX0_load 23 = .ok (.iand, 1) := by decide +kernel
theorem dX0_load_24 : decode cX0_load 24 = .ok (.ishl, 1) := by decide +kernel
theorem dX0_load_25 : decode cX0_load 25 = .ok (.istore_n 3, 1) := by decide +kernel
theorem dX0_load_26 : decode cX0_load 26 = .ok (.aload_n 0, 1) := by decide +kernel
theorem dX0_load_27 : decode cX0_load 27 = .ok (.getfield 15, 3) := by decide +kernel
theorem dX0_load_30 : decode cX0_load 30 = .ok (.iload_n 1, 1) := by decide +kernel
theorem dX0_load_31 : decode cX0_load 31 = .ok (.bipush 15, 2) := by decide +kernel
theorem dX0_load_33 : decode cX0_load 33 = .ok (.iushr, 1) := by decide +kernel
theorem dX0_load_34 : decode cX0_load 34 = .ok (.bipush 31, 2) := by decide +kernel
theorem dX0_load_36 : decode cX0_load 36 = .ok (.iand, 1) := by decide +kernel
theorem dX0_load_37 : decode cX0_load 37 = .ok (.iaload, 1) := by decide +kernel
theorem dX0_load_38 : decode cX0_load 38 = .ok (.iload_n 1, 1) := by decide +kernel
theorem dX0_load_39 : decode cX0_load 39 = .ok (.bipush 20, 2) := by decide +kernel
theorem dX0_load_41 : decode cX0_load 41 = .ok (.ishr, 1) := by decide +kernel
theorem dX0_load_42 : decode cX0_load 42 = .ok (.iadd, 1) := by decide +kernel
theorem dX0_load_43 : decode cX0_load 43 = .ok (.istore 4, 2) := by decide +kernel
theorem dX0_load_45 : decode cX0_load 45 = .ok (.iload 4, 2) := by decide +kernel
theorem dX0_load_47 : decode cX0_load 47 = .ok (.iload_n 3, 1) := by decide +kernel
theorem dX0_load_48 : decode cX0_load 48 = .ok (.invokestatic 72, 3) := by decide +kernel
theorem dX0_load_51 : decode cX0_load 51 = .ok (.istore 5, 2) := by decide +kernel
theorem dX0_load_53 : decode cX0_load 53 = .ok (.iload 5, 2) := by decide +kernel
theorem dX0_load_55 : decode cX0_load 55 = .ok (.ifCond .eq 6, 3) := by decide +kernel
theorem dX0_load_58 : decode cX0_load 58 = .ok (.iload 5, 2) := by decide +kernel
theorem dX0_load_60 : decode cX0_load 60 = .ok (.ireturn, 1) := by decide +kernel
theorem dX0_load_61 : decode cX0_load 61 = .ok (.bipush 32, 2) := by decide +kernel
theorem dX0_load_63 : decode cX0_load 63 = .ok (.iload_n 3, 1) := by decide +kernel
theorem dX0_load_64 : decode cX0_load 64 = .ok (.bipush 8, 2) := by decide +kernel
theorem dX0_load_66 : decode cX0_load 66 = .ok (.imul, 1) := by decide +kernel
theorem dX0_load_67 : decode cX0_load 67 = .ok (.isub, 1) := by decide +kernel
theorem dX0_load_68 : decode cX0_load 68 = .ok (.istore 6, 2) := by decide +kernel
theorem dX0_load_70 : decode cX0_load 70 = .ok (.aload_n 0, 1) := by decide +kernel
theorem dX0_load_71 : decode cX0_load 71 = .ok (.getfield 11, 3) := by decide +kernel
theorem dX0_load_74 : decode cX0_load 74 = .ok (.iload 4, 2) := by decide +kernel
theorem dX0_load_76 : decode cX0_load 76 = .ok (.iconst 2, 1) := by decide +kernel
theorem dX0_load_77 : decode cX0_load 77 = .ok (.ishr, 1) := by decide +kernel
theorem dX0_load_78 : decode cX0_load 78 = .ok (.iaload, 1) := by decide +kernel
theorem dX0_load_79 : decode cX0_load 79 = .ok (.iload 4, 2) := by decide +kernel
theorem dX0_load_81 : decode cX0_load 81 = .ok (.iconst 3, 1) := by decide +kernel
theorem dX0_load_82 : decode cX0_load 82 = .ok (.iand, 1) := by decide +kernel
theorem dX0_load_83 : decode cX0_load 83 = .ok (.bipush 8, 2) := by decide +kernel
theorem dX0_load_85 : decode cX0_load 85 = .ok (.imul, 1) := by decide +kernel
theorem dX0_load_86 : decode cX0_load 86 = .ok (.iushr, 1) := by decide +kernel
theorem dX0_load_87 : decode cX0_load 87 = .ok (.iload 6, 2) := by decide +kernel
theorem dX0_load_89 : decode cX0_load 89 = .ok (.ishl, 1) := by decide +kernel
theorem dX0_load_90 : decode cX0_load 90 = .ok (.istore 7, 2) := by decide +kernel
theorem dX0_load_92 : decode cX0_load 92 = .ok (.aload_n 0, 1) := by decide +kernel
theorem dX0_load_93 : decode cX0_load 93 = .ok (.iload_n 1, 1) := by decide +kernel
theorem dX0_load_94 : decode cX0_load 94 = .ok (.bipush 7, 2) := by decide +kernel
theorem dX0_load_96 : decode cX0_load 96 = .ok (.iushr, 1) := by decide +kernel
theorem dX0_load_97 : decode cX0_load 97 = .ok (.bipush 31, 2) := by decide +kernel
theorem dX0_load_99 : decode cX0_load 99 = .ok (.iand, 1) := by decide +kernel
theorem dX0_load_100 : decode cX0_load 100 = .ok (.iload_n 2, 1) := by decide +kernel
theorem dX0_load_101 : decode cX0_load 101 = .ok (.iconst 4, 1) := by decide +kernel
theorem dX0_load_102 : decode cX0_load 102 = .ok (.if_icmp .ge 11, 3) := by decide +kernel
theorem dX0_load_105 : decode cX0_load 105 = .ok (.iload 7, 2) := by decide +kernel
theorem dX0_load_107 : decode cX0_load 107 = .ok (.iload 6, 2) := by decide +kernel
theorem dX0_load_109 : decode cX0_load 109 = .ok (.ishr, 1) := by decide +kernel
theorem dX0_load_110 : decode cX0_load 110 = .ok (.goto 8, 3) := by decide +kernel
theorem dX0_load_113 : decode cX0_load 113 = .ok (.iload 7, 2) := by decide +kernel
theorem dX0_load_115 : decode cX0_load 115 = .ok (.iload 6, 2) := by decide +kernel
theorem dX0_load_117 : decode cX0_load 117 = .ok (.iushr, 1) := by decide +kernel
theorem dX0_load_118 : decode cX0_load 118 = .ok (.invokevirtual 22, 3) := by decide +kernel
theorem dX0_load_121 : decode cX0_load 121 = .ok (.ireturn, 1) := by decide +kernel
theorem dX0_store_0 : decode cX0_store 0 = .ok (.iload_n 1, 1) := by decide +kernel
theorem dX0_store_1 : decode cX0_store 1 = .ok (.bipush 12, 2) := by decide +kernel
theorem dX0_store_3 : decode cX0_store 3 = .ok (.iushr, 1) := by decide +kernel
theorem dX0_store_4 : decode cX0_store 4 = .ok (.bipush 7, 2) := by decide +kernel
theorem dX0_store_6 : decode cX0_store 6 = .ok (.iand, 1) := by decide +kernel
theorem dX0_store_7 : decode cX0_store 7 = .ok (.istore_n 2, 1) := by decide +kernel
theorem dX0_store_8 : decode cX0_store 8 = .ok (.iload_n 2, 1) := by decide +kernel
theorem dX0_store_9 : decode cX0_store 9 = .ok (.iconst 2, 1) := by decide +kernel
theorem dX0_store_10 : decode cX0_store 10 = .ok (.if_icmp .le 5, 3) := by decide +kernel
theorem dX0_store_13 : decode cX0_store 13 = .ok (.iconst 2, 1) := by decide +kernel
theorem dX0_store_14 : decode cX0_store 14 = .ok (.ireturn, 1) := by decide +kernel
theorem dX0_store_15 : decode cX0_store 15 = .ok (.iconst 1, 1) := by decide +kernel
theorem dX0_store_16 : decode cX0_store 16 = .ok (.iload_n 2, 1) := by decide +kernel
theorem dX0_store_17 : decode cX0_store 17 = .ok (.ishl, 1) := by decide +kernel
theorem dX0_store_18 : decode cX0_store 18 = .ok (.istore_n 3, 1) := by decide +kernel
theorem dX0_store_19 : decode cX0_store 19 = .ok (.aload_n 0, 1) := by decide +kernel
theorem dX0_store_20 : decode cX0_store 20 = .ok (.getfield 15, 3) := by decide +kernel
theorem dX0_store_23 : decode cX0_store 23 = .ok (.iload_n 1, 1) := by decide +kernel
theorem dX0_store_24 : decode cX0_store 24 = .ok (.bipush 15, 2) := by decide +kernel
theorem dX0_store_26 : decode cX0_store 26 = .ok (.iushr, 1) := by decide +kernel
theorem dX0_store_27 : decode cX0_store 27 = .ok (.bipush 31, 2) := by decide +kernel
theorem dX0_store_29 : decode cX0_store 29 = .ok (.iand, 1) := by decide +kernel
theorem dX0_store_30 : decode cX0_store 30 = .ok (.iaload, 1) := by decide +kernel
theorem dX0_store_31 : decode cX0_store 31 = .ok (.iload_n 1, 1) := by decide +kernel
theorem dX0_store_32 : decode cX0_store 32 = .ok (.bipush 25, 2) := by decide +kernel
theorem dX0_store_34 : decode cX0_store 34 = .ok (.ishr, 1) := by decide +kernel
theorem dX0_store_35 : decode cX0_store 35 = .ok (.iconst 5, 1) := by decide +kernel
theorem dX0_store_36 : decode cX0_store 36 = .ok (.ishl, 1) := by decide +kernel
theorem dX0_store_37 : decode cX0_store 37 = .ok (.iload_n 1, 1) := by decide +kernel
theorem dX0_store_38 : decode cX0_store 38 = .ok (.bipush 7, 2) := by decide +kernel
theorem dX0_store_40 : decode cX0_store 40 = .ok (.iushr, 1) := by decide +kernel
theorem dX0_store_41 : decode cX0_store 41 = .ok (.bipush 31, 2) := by decide +kernel
theorem dX0_store_43 : decode cX0_store 43 = .ok (.iand, 1) := by decide +kernel
theorem dX0_store_44 : decode cX0_store 44 = .ok (.ior, 1) := by decide +kernel
theorem dX0_store_45 : decode cX0_store 45 = .ok (.iadd, 1) := by decide +kernel
theorem dX0_store_46 : decode cX0_store 46 = .ok (.istore 4, 2) := by decide +kernel
theorem dX0_store_48 : decode cX0_store 48 = .ok (.iload 4, 2) := by decide +kernel
theorem dX0_store_50 : decode cX0_store 50 = .ok (.iload_n 3, 1) := by decide +kernel
theorem dX0_store_51 : decode cX0_store 51 = .ok (.invokestatic 72, 3) := by decide +kernel
theorem dX0_store_54 : decode cX0_store 54 = .ok (.istore 5, 2) := by decide +kernel
theorem dX0_store_56 : decode cX0_store 56 = .ok (.iload 5, 2) := by decide +kernel
theorem dX0_store_58 : decode cX0_store 58 = .ok (.ifCond .eq 6, 3) := by decide +kernel
theorem dX0_store_61 : decode cX0_store 61 = .ok (.iload 5, 2) := by decide +kernel
theorem dX0_store_63 : decode cX0_store 63 = .ok (.ireturn, 1) := by decide +kernel
theorem dX0_store_64 : decode cX0_store 64 = .ok (.iload 4, 2) := by decide +kernel
theorem dX0_store_66 : decode cX0_store 66 = .ok (.iconst 3, 1) := by decide +kernel
theorem dX0_store_67 : decode cX0_store 67 = .ok (.iand, 1) := by decide +kernel
theorem dX0_store_68 : decode cX0_store 68 = .ok (.bipush 8, 2) := by decide +kernel
theorem dX0_store_70 : decode cX0_store 70 = .ok (.imul, 1) := by decide +kernel
theorem dX0_store_71 : decode cX0_store 71 = .ok (.istore 6, 2) := by decide +kernel
theorem dX0_store_73 : decode cX0_store 73 = .ok (.iconst (-1), 1) := by decide +kernel
theorem dX0_store_74 : decode cX0_store 74 = .ok (.bipush 32, 2) := by decide +kernel
theorem dX0_store_76 : decode cX0_store 76 = .ok (.iload_n 3, 1) := by decide +kernel
theorem dX0_store_77 : decode cX0_store 77 = .ok (.bipush 8, 2) := by decide +kernel
theorem dX0_store_79 : decode cX0_store 79 = .ok (.imul, 1) := by decide +kernel
theorem dX0_store_80 : decode cX0_store 80 = .ok (.isub, 1) := by decide +kernel
theorem dX0_store_81 : decode cX0_store 81 = .ok (.iushr, 1) := by decide +kernel
theorem dX0_store_82 : decode cX0_store 82 = .ok (.iload 6, 2) := by decide +kernel
theorem dX0_store_84 : decode cX0_store 84 = .ok (.ishl, 1) := by decide +kernel
theorem dX0_store_85 : decode cX0_store 85 = .ok (.istore 7, 2) := by decide +kernel
theorem dX0_store_87 : decode cX0_store 87 = .ok (.iload 4, 2) := by decide +kernel
theorem dX0_store_89 : decode cX0_store 89 = .ok (.iconst 2, 1) := by decide +kernel
theorem dX0_store_90 : decode cX0_store 90 = .ok (.ishr, 1) := by decide +kernel
theorem dX0_store_91 : decode cX0_store 91 = .ok (.istore 8, 2) := by decide +kernel
theorem dX0_store_93 : decode cX0_store 93 = .ok (.aload_n 0, 1) := by decide +kernel
theorem dX0_store_94 : decode cX0_store 94 = .ok (.getfield 11, 3) := by decide +kernel
theorem dX0_store_97 : decode cX0_store 97 = .ok (.iload 8, 2) := by decide +kernel
theorem dX0_store_99 : decode cX0_store 99 = .ok (.aload_n 0, 1) := by decide +kernel
theorem dX0_store_100 : decode cX0_store 100 = .ok (.getfield 11, 3) := by decide +kernel
theorem dX0_store_103 : decode cX0_store 103 = .ok (.iload 8, 2) := by decide +kernel
theorem dX0_store_105 : decode cX0_store 105 = .ok (.iaload, 1) := by decide +kernel
theorem dX0_store_106 : decode cX0_store 106 = .ok (.iload 7, 2) := by decide +kernel
theorem dX0_store_108 : decode cX0_store 108 = .ok (.iconst (-1), 1) := by decide +kernel
theorem dX0_store_109 : decode cX0_store 109 = .ok (.ixor, 1) := by decide +kernel
theorem dX0_store_110 : decode cX0_store 110 = .ok (.iand, 1) := by decide +kernel
theorem dX0_store_111 : decode cX0_store 111 = .ok (.aload_n 0, 1) := by decide +kernel
theorem dX0_store_112 : decode cX0_store 112 = .ok (.getfield 15, 3) := by decide +kernel
theorem dX0_store_115 : decode cX0_store 115 = .ok (.iload_n 1, 1) := by decide +kernel
theorem dX0_store_116 : decode cX0_store 116 = .ok (.bipush 20, 2) := by decide +kernel
theorem dX0_store_118 : decode cX0_store 118 = .ok (.iushr, 1) := by decide +kernel
theorem dX0_store_119 : decode cX0_store 119 = .ok (.bipush 31, 2) := by decide +kernel
theorem dX0_store_121 : decode cX0_store 121 = .ok (.iand, 1) := by decide +kernel
theorem dX0_store_122 : decode cX0_store 122 = .ok (.iaload, 1) := by decide +kernel
theorem dX0_store_123 : decode cX0_store 123 = .ok (.iload 6, 2) := by decide +kernel
theorem dX0_store_125 : decode cX0_store 125 = .ok (.ishl, 1) := by decide +kernel
theorem dX0_store_126 : decode cX0_store 126 = .ok (.iload 7, 2) := by decide +kernel
theorem dX0_store_128 : decode cX0_store 128 = .ok (.iand, 1) := by decide +kernel
theorem dX0_store_129 : decode cX0_store 129 = .ok (.ior, 1) := by decide +kernel
theorem dX0_store_130 : decode cX0_store 130 = .ok (.iastore, 1) := by decide +kernel
theorem dX0_store_131 : decode cX0_store 131 = .ok (.iconst 0, 1) := by decide +kernel
theorem dX0_store_132 : decode cX0_store 132 = .ok (.ireturn, 1) := by decide +kernel
theorem dX0_withNumber_0 : decode cX0_withNumber 0 = .ok (.iload_n 1, 1) := by decide +kernel
theorem dX0_withNumber_1 : decode cX0_withNumber 1 = .ok (.bipush 12, 2) := by decide +kernel
theorem dX0_withNumber_3 : decode cX0_withNumber 3 = .ok (.iushr, 1) := by decide +kernel
theorem dX0_withNumber_4 : decode cX0_withNumber 4 = .ok (.bipush 7, 2) := by decide +kernel
theorem dX0_withNumber_6 : decode cX0_withNumber 6 = .ok (.iand, 1) := by decide +kernel
theorem dX0_withNumber_7 : decode cX0_withNumber 7 = .ok (.istore_n 2, 1) := by decide +kernel
theorem dX0_withNumber_8 : decode cX0_withNumber 8 = .ok (.iload_n 1, 1) := by decide +kernel
theorem dX0_withNumber_9 : decode cX0_withNumber 9 = .ok (.bipush 25, 2) := by decide +kernel
theorem dX0_withNumber_11 : decode cX0_withNumber 11 = .ok (.iushr, 1) := by decide +kernel
theorem dX0_withNumber_12 : decode cX0_withNumber 12 = .ok (.istore_n 3, 1) := by decide +kernel
theorem dX0_withNumber_13 : decode cX0_withNumber 13 = .ok (.aload_n 0, 1) := by decide +kernel
theorem dX0_withNumber_14 : decode cX0_withNumber 14 = .ok (.getfield 15, 3) := by decide +kernel
theorem dX0_withNumber_17 : decode cX0_withNumber 17 = .ok (.iload_n 1, 1) := by decide +kernel
theorem dX0_withNumber_18 : decode cX0_withNumber 18 = .ok (.bipush 15, 2) := by decide +kernel
theorem dX0_withNumber_20 : decode cX0_withNumber 20 = .ok (.iushr, 1) := by decide +kernel
theorem dX0_withNumber_21 : decode cX0_withNumber 21 = .ok (.bipush 31, 2) := by decide +kernel
theorem dX0_withNumber_23 : decode cX0_withNumber 23 = .ok (.iand, 1) := by decide +kernel
theorem dX0_withNumber_24 : decode cX0_withNumber 24 = .ok (.iaload, 1) := by decide +kernel
theorem dX0_withNumber_25 : decode cX0_withNumber 25 = .ok (.istore 4, 2) := by decide +kernel
theorem dX0_withNumber_27 : decode cX0_withNumber 27 = .ok (.iload_n 1, 1) := by decide +kernel
theorem dX0_withNumber_28 : decode cX0_withNumber 28 = .ok (.bipush 20, 2) := by decide +kernel
theorem dX0_withNumber_30 : decode cX0_withNumber 30 = .ok (.ishr, 1) := by decide +kernel
theorem dX0_withNumber_31 : decode cX0_withNumber 31 = .ok (.istore 5, 2) := by decide +kernel
theorem dX0_withNumber_33 : decode cX0_withNumber 33 = .ok (.iload_n 2, 1) := by decide +kernel
theorem dX0_withNumber_34 : decode cX0_withNumber 34 = .ok (.iconst 1, 1) := by decide +kernel
theorem dX0_withNumber_35 : decode cX0_withNumber 35 = .ok (.if_icmp .ne 7, 3) := by decide +kernel
theorem dX0_withNumber_38 : decode cX0_withNumber 38 = .ok (.iload_n 3, 1) := by decide +kernel
theorem dX0_withNumber_39 : decode cX0_withNumber 39 = .ok (.ifCond .ne 18, 3) := by decide +kernel
theorem dX0_withNumber_42 : decode cX0_withNumber 42 = .ok (.iload_n 2, 1) := by decide +kernel
theorem dX0_withNumber_43 : decode cX0_withNumber 43 = .ok (.iconst 5, 1) := by decide +kernel
theorem dX0_withNumber_44 : decode cX0_withNumber 44 = .ok (.if_icmp .ne 15, 3) := by decide +kernel
theorem dX0_withNumber_47 : decode cX0_withNumber 47 = .ok (.iload_n 3, 1) := by decide +kernel
theorem dX0_withNumber_48 : decode cX0_withNumber 48 = .ok (.ifCond .eq 11, 3) := by decide +kernel
theorem dX0_withNumber_51 : decode cX0_withNumber 51 = .ok (.iload_n 3, 1) := by decide +kernel
theorem dX0_withNumber_52 : decode cX0_withNumber 52 = .ok (.bipush 32, 2) := by decide +kernel
theorem dX0_withNumber_54 : decode cX0_withNumber 54 = .ok (.if_icmp .eq 5, 3) := by decide +kernel
theorem dX0_withNumber_57 : decode cX0_withNumber 57 = .ok (.iconst 2, 1) := by decide +kernel
theorem dX0_withNumber_58 : decode cX0_withNumber 58 = .ok (.ireturn, 1) := by decide +kernel
theorem dX0_withNumber_59 : decode cX0_withNumber 59 = .ok (.aload_n 0, 1) := by decide +kernel
theorem dX0_withNumber_60 : decode cX0_withNumber 60 = .ok (.iload_n 1, 1) := by decide +kernel
theorem dX0_withNumber_61 : decode cX0_withNumber 61 = .ok (.bipush 7, 2) := by decide +kernel
theorem dX0_withNumber_63 : decode cX0_withNumber 63 = .ok (.iushr, 1) := by decide +kernel
theorem dX0_withNumber_64 : decode cX0_withNumber 64 = .ok (.bipush 31, 2) := by decide +kernel
theorem dX0_withNumber_66 : decode cX0_withNumber 66 = .ok (.iand, 1) := by decide +kernel
theorem dX0_withNumber_67 : decode cX0_withNumber 67 = .ok (.iload_n 2, 1) := by decide +kernel
theorem dX0_withNumber_68 : decode cX0_withNumber 68 = .ok (.iload_n 2, 1) := by decide +kernel
theorem dX0_withNumber_69 : decode cX0_withNumber 69 = .ok (.iconst 5, 1) := by decide +kernel
theorem dX0_withNumber_70 : decode cX0_withNumber 70 = .ok (.if_icmp .ne 13, 3) := by decide +kernel
theorem dX0_withNumber_73 : decode cX0_withNumber 73 = .ok (.iload_n 3, 1) := by decide +kernel
theorem dX0_withNumber_74 : decode cX0_withNumber 74 = .ok (.bipush 32, 2) := by decide +kernel
theorem dX0_withNumber_76 : decode cX0_withNumber 76 = .ok (.if_icmp .ne 7, 3) := by decide +kernel
theorem dX0_withNumber_79 : decode cX0_withNumber 79 = .ok (.iconst 1, 1) := by decide +kernel
theorem dX0_withNumber_80 : decode cX0_withNumber 80 = .ok (.goto 4, 3) := by decide +kernel
theorem dX0_withNumber_83 : decode cX0_withNumber 83 = .ok (.iconst 0, 1) := by decide +kernel
theorem dX0_withNumber_84 : decode cX0_withNumber 84 = .ok (.iload 4, 2) := by decide +kernel
theorem dX0_withNumber_86 : decode cX0_withNumber 86 = .ok (.iload 5, 2) := by decide +kernel
theorem dX0_withNumber_88 : decode cX0_withNumber 88 = .ok (.invokestatic 75, 3) := by decide +kernel
theorem dX0_withNumber_91 : decode cX0_withNumber 91 = .ok (.invokevirtual 22, 3) := by decide +kernel
theorem dX0_withNumber_94 : decode cX0_withNumber 94 = .ok (.ireturn, 1) := by decide +kernel
theorem dX0_withRegister_0 : decode cX0_withRegister 0 = .ok (.iload_n 1, 1) := by decide +kernel
theorem dX0_withRegister_1 : decode cX0_withRegister 1 = .ok (.bipush 12, 2) := by decide +kernel
theorem dX0_withRegister_3 : decode cX0_withRegister 3 = .ok (.iushr, 1) := by decide +kernel
theorem dX0_withRegister_4 : decode cX0_withRegister 4 = .ok (.bipush 7, 2) := by decide +kernel
theorem dX0_withRegister_6 : decode cX0_withRegister 6 = .ok (.iand, 1) := by decide +kernel
theorem dX0_withRegister_7 : decode cX0_withRegister 7 = .ok (.istore_n 2, 1) := by decide +kernel
theorem dX0_withRegister_8 : decode cX0_withRegister 8 = .ok (.iload_n 1, 1) := by decide +kernel
theorem dX0_withRegister_9 : decode cX0_withRegister 9 = .ok (.bipush 25, 2) := by decide +kernel
theorem dX0_withRegister_11 : decode cX0_withRegister 11 = .ok (.iushr, 1) := by decide +kernel
theorem dX0_withRegister_12 : decode cX0_withRegister 12 = .ok (.istore_n 3, 1) := by decide +kernel
theorem dX0_withRegister_13 : decode cX0_withRegister 13 = .ok (.aload_n 0, 1) := by decide +kernel
theorem dX0_withRegister_14 : decode cX0_withRegister 14 = .ok (.getfield 15, 3) := by decide +kernel
theorem dX0_withRegister_17 : decode cX0_withRegister 17 = .ok (.iload_n 1, 1) := by decide +kernel
theorem dX0_withRegister_18 : decode cX0_withRegister 18 = .ok (.bipush 15, 2) := by decide +kernel
theorem dX0_withRegister_20 : decode cX0_withRegister 20 = .ok (.iushr, 1) := by decide +kernel
theorem dX0_withRegister_21 : decode cX0_withRegister 21 = .ok (.bipush 31, 2) := by decide +kernel
theorem dX0_withRegister_23 : decode cX0_withRegister 23 = .ok (.iand, 1) := by decide +kernel
theorem dX0_withRegister_24 : decode cX0_withRegister 24 = .ok (.iaload, 1) := by decide +kernel
theorem dX0_withRegister_25 : decode cX0_withRegister 25 = .ok (.istore 4, 2) := by decide +kernel
theorem dX0_withRegister_27 : decode cX0_withRegister 27 = .ok (.aload_n 0, 1) := by decide +kernel
theorem dX0_withRegister_28 : decode cX0_withRegister 28 = .ok (.getfield 15, 3) := by decide +kernel
theorem dX0_withRegister_31 : decode cX0_withRegister 31 = .ok (.iload_n 1, 1) := by decide +kernel
theorem dX0_withRegister_32 : decode cX0_withRegister 32 = .ok (.bipush 20, 2) := by decide +kernel
theorem dX0_withRegister_34 : decode cX0_withRegister 34 = .ok (.iushr, 1) := by decide +kernel
theorem dX0_withRegister_35 : decode cX0_withRegister 35 = .ok (.bipush 31, 2) := by decide +kernel
theorem dX0_withRegister_37 : decode cX0_withRegister 37 = .ok (.iand, 1) := by decide +kernel
theorem dX0_withRegister_38 : decode cX0_withRegister 38 = .ok (.iaload, 1) := by decide +kernel
theorem dX0_withRegister_39 : decode cX0_withRegister 39 = .ok (.istore 5, 2) := by decide +kernel
theorem dX0_withRegister_41 : decode cX0_withRegister 41 = .ok (.iload_n 3, 1) := by decide +kernel
theorem dX0_withRegister_42 : decode cX0_withRegister 42 = .ok (.iconst 1, 1) := by decide +kernel
theorem dX0_withRegister_43 : decode cX0_withRegister 43 = .ok (.if_icmp .ne 23, 3) := by decide +kernel
theorem dX0_withRegister_46 : decode cX0_withRegister 46 = .ok (.aload_n 0, 1) := by decide +kernel
theorem dX0_withRegister_47 : decode cX0_withRegister 47 = .ok (.iload_n 1, 1) := by decide +kernel
theorem dX0_withRegister_48 : decode cX0_withRegister 48 = .ok (.bipush 7, 2) := by decide +kernel
theorem dX0_withRegister_50 : decode cX0_withRegister 50 = .ok (.iushr, 1) := by decide +kernel
theorem dX0_withRegister_51 : decode cX0_withRegister 51 = .ok (.bipush 31, 2) := by decide +kernel
theorem dX0_withRegister_53 : decode cX0_withRegister 53 = .ok (.iand, 1) := by decide +kernel
theorem dX0_withRegister_54 : decode cX0_withRegister 54 = .ok (.iload_n 2, 1) := by decide +kernel
theorem dX0_withRegister_55 : decode cX0_withRegister 55 = .ok (.iload 4, 2) := by decide +kernel
theorem dX0_withRegister_57 : decode cX0_withRegister 57 = .ok (.iload 5, 2) := by decide +kernel
theorem dX0_withRegister_59 : decode cX0_withRegister 59 = .ok (.invokestatic 79, 3) := by decide +kernel
theorem dX0_withRegister_62 : decode cX0_withRegister 62 = .ok (.invokevirtual 22, 3) := by decide +kernel
theorem dX0_withRegister_65 : decode cX0_withRegister 65 = .ok (.ireturn, 1) := by decide +kernel
theorem dX0_withRegister_66 : decode cX0_withRegister 66 = .ok (.iload_n 3, 1) := by decide +kernel
theorem dX0_withRegister_67 : decode cX0_withRegister 67 = .ok (.ifCond .eq 20, 3) := by decide +kernel
theorem dX0_withRegister_70 : decode cX0_withRegister 70 = .ok (.iload_n 3, 1) := by decide +kernel
theorem dX0_withRegister_71 : decode cX0_withRegister 71 = .ok (.bipush 32, 2) := by decide +kernel
theorem dX0_withRegister_73 : decode cX0_withRegister 73 = .ok (.if_icmp .ne 12, 3) := by decide +kernel
theorem dX0_withRegister_76 : decode cX0_withRegister 76 = .ok (.iload_n 2, 1) := by decide +kernel
theorem dX0_withRegister_77 : decode cX0_withRegister 77 = .ok (.ifCond .eq 10, 3) := by decide +kernel
theorem dX0_withRegister_80 : decode cX0_withRegister 80 = .ok (.iload_n 2, 1) := by decide +kernel
theorem dX0_withRegister_81 : decode cX0_withRegister 81 = .ok (.iconst 5, 1) := by decide +kernel
theorem dX0_withRegister_82 : decode cX0_withRegister 82 = .ok (.if_icmp .eq 5, 3) := by decide +kernel
theorem dX0_withRegister_85 : decode cX0_withRegister 85 = .ok (.iconst 2, 1) := by decide +kernel
theorem dX0_withRegister_86 : decode cX0_withRegister 86 = .ok (.ireturn, 1) := by decide +kernel
theorem dX0_withRegister_87 : decode cX0_withRegister 87 = .ok (.aload_n 0, 1) := by decide +kernel
theorem dX0_withRegister_88 : decode cX0_withRegister 88 = .ok (.iload_n 1, 1) := by decide +kernel
theorem dX0_withRegister_89 : decode cX0_withRegister 89 = .ok (.bipush 7, 2) := by decide +kernel
theorem dX0_withRegister_91 : decode cX0_withRegister 91 = .ok (.iushr, 1) := by decide +kernel
theorem dX0_withRegister_92 : decode cX0_withRegister 92 = .ok (.bipush 31, 2) := by decide +kernel
theorem dX0_withRegister_94 : decode cX0_withRegister 94 = .ok (.iand, 1) := by decide +kernel
theorem dX0_withRegister_95 : decode cX0_withRegister 95 = .ok (.iload_n 2, 1) := by decide +kernel
theorem dX0_withRegister_96 : decode cX0_withRegister 96 = .ok (.iload_n 3, 1) := by decide +kernel
theorem dX0_withRegister_97 : decode cX0_withRegister 97 = .ok (.bipush 32, 2) := by decide +kernel
theorem dX0_withRegister_99 : decode cX0_withRegister 99 = .ok (.if_icmp .ne 7, 3) := by decide +kernel
theorem dX0_withRegister_102 : decode cX0_withRegister 102 = .ok (.iconst 1, 1) := by decide +kernel
theorem dX0_withRegister_103 : decode cX0_withRegister 103 = .ok (.goto 4, 3) := by decide +kernel
theorem dX0_withRegister_106 : decode cX0_withRegister 106 = .ok (.iconst 0, 1) := by decide +kernel
theorem dX0_withRegister_107 : decode cX0_withRegister 107 = .ok (.iload 4, 2) := by decide +kernel
theorem dX0_withRegister_109 : decode cX0_withRegister 109 = .ok (.iload 5, 2) := by decide +kernel
theorem dX0_withRegister_111 : decode cX0_withRegister 111 = .ok (.invokestatic 75, 3) := by decide +kernel
theorem dX0_withRegister_114 : decode cX0_withRegister 114 = .ok (.invokevirtual 22, 3) := by decide +kernel
theorem dX0_withRegister_117 : decode cX0_withRegister 117 = .ok (.ireturn, 1) := by decide +kernel
theorem dX0_plain_0 : decode cX0_plain 0 = .ok (.iload_n 0, 1) := by decide +kernel
theorem dX0_plain_1 : decode cX0_plain 1 = .ok (.tableswitch 106 0 6 #[43, 57, 61, 75, 84, 88, 102], 43) := by decide +kernel
theorem dX0_plain_44 : decode cX0_plain 44 = .ok (.iload_n 1, 1) := by decide +kernel
theorem dX0_plain_45 : decode cX0_plain 45 = .ok (.ifCond .eq 9, 3) := by decide +kernel
theorem dX0_plain_48 : decode cX0_plain 48 = .ok (.iload_n 2, 1) := by decide +kernel
theorem dX0_plain_49 : decode cX0_plain 49 = .ok (.iload_n 3, 1) := by decide +kernel
theorem dX0_plain_50 : decode cX0_plain 50 = .ok (.isub, 1) := by decide +kernel
theorem dX0_plain_51 : decode cX0_plain 51 = .ok (.goto 6, 3) := by decide +kernel
theorem dX0_plain_54 : decode cX0_plain 54 = .ok (.iload_n 2, 1) := by decide +kernel
theorem dX0_plain_55 : decode cX0_plain 55 = .ok (.iload_n 3, 1) := by decide +kernel
theorem dX0_plain_56 : decode cX0_plain 56 = .ok (.iadd, 1) := by decide +kernel
theorem dX0_plain_57 : decode cX0_plain 57 = .ok (.ireturn, 1) := by decide +kernel
theorem dX0_plain_58 : decode cX0_plain 58 = .ok (.iload_n 2, 1) := by decide +kernel
theorem dX0_plain_59 : decode cX0_plain 59 = .ok (.iload_n 3, 1) := by decide +kernel
theorem dX0_plain_60 : decode cX0_plain 60 = .ok (.ishl, 1) := by decide +kernel
theorem dX0_plain_61 : decode cX0_plain 61 = .ok (.ireturn, 1) := by decide +kernel
theorem dX0_plain_62 : decode cX0_plain 62 = .ok (.iload_n 2, 1) := by decide +kernel
theorem dX0_plain_63 : decode cX0_plain 63 = .ok (.iload_n 3, 1) := by decide +kernel
theorem dX0_plain_64 : decode cX0_plain 64 = .ok (.if_icmp .ge 7, 3) := by decide +kernel
theorem dX0_plain_67 : decode cX0_plain 67 = .ok (.iconst 1, 1) := by decide +kernel
theorem dX0_plain_68 : decode cX0_plain 68 = .ok (.goto 4, 3) := by decide +kernel
theorem dX0_plain_71 : decode cX0_plain 71 = .ok (.iconst 0, 1) := by decide +kernel
theorem dX0_plain_72 : decode cX0_plain 72 = .ok (.invokestatic 83, 3) := by decide +kernel
theorem dX0_plain_75 : decode cX0_plain 75 = .ok (.ireturn, 1) := by decide +kernel
theorem dX0_plain_76 : decode cX0_plain 76 = .ok (.iload_n 2, 1) := by decide +kernel
theorem dX0_plain_77 : decode cX0_plain 77 = .ok (.iload_n 3, 1) := by decide +kernel
theorem dX0_plain_78 : decode cX0_plain 78 = .ok (.invokestatic 63, 3) := by decide +kernel
theorem dX0_plain_81 : decode cX0_plain 81 = .ok (.invokestatic 83, 3) := by decide +kernel
theorem dX0_plain_84 : decode cX0_plain 84 = .ok (.ireturn, 1) := by decide +kernel
theorem dX0_plain_85 : decode cX0_plain 85 = .ok (.iload_n 2, 1) := by decide +kernel
theorem dX0_plain_86 : decode cX0_plain 86 = .ok (.iload_n 3, 1) := by decide +kernel
theorem dX0_plain_87 : decode cX0_plain 87 = .ok (.ixor, 1) := by decide +kernel
theorem dX0_plain_88 : decode cX0_plain 88 = .ok (.ireturn, 1) := by decide +kernel
theorem dX0_plain_89 : decode cX0_plain 89 = .ok (.iload_n 1, 1) := by decide +kernel
theorem dX0_plain_90 : decode cX0_plain 90 = .ok (.ifCond .eq 9, 3) := by decide +kernel
theorem dX0_plain_93 : decode cX0_plain 93 = .ok (.iload_n 2, 1) := by decide +kernel
theorem dX0_plain_94 : decode cX0_plain 94 = .ok (.iload_n 3, 1) := by decide +kernel
theorem dX0_plain_95 : decode cX0_plain 95 = .ok (.ishr, 1) := by decide +kernel
theorem dX0_plain_96 : decode cX0_plain 96 = .ok (.goto 6, 3) := by decide +kernel
theorem dX0_plain_99 : decode cX0_plain 99 = .ok (.iload_n 2, 1) := by decide +kernel
theorem dX0_plain_100 : decode cX0_plain 100 = .ok (.iload_n 3, 1) := by decide +kernel
theorem dX0_plain_101 : decode cX0_plain 101 = .ok (.iushr, 1) := by decide +kernel
theorem dX0_plain_102 : decode cX0_plain 102 = .ok (.ireturn, 1) := by decide +kernel
theorem dX0_plain_103 : decode cX0_plain 103 = .ok (.iload_n 2, 1) := by decide +kernel
theorem dX0_plain_104 : decode cX0_plain 104 = .ok (.iload_n 3, 1) := by decide +kernel
theorem dX0_plain_105 : decode cX0_plain 105 = .ok (.ior, 1) := by decide +kernel
theorem dX0_plain_106 : decode cX0_plain 106 = .ok (.ireturn, 1) := by decide +kernel
theorem dX0_plain_107 : decode cX0_plain 107 = .ok (.iload_n 2, 1) := by decide +kernel
theorem dX0_plain_108 : decode cX0_plain 108 = .ok (.iload_n 3, 1) := by decide +kernel
theorem dX0_plain_109 : decode cX0_plain 109 = .ok (.iand, 1) := by decide +kernel
theorem dX0_plain_110 : decode cX0_plain 110 = .ok (.ireturn, 1) := by decide +kernel
theorem dX0_product_0 : decode cX0_product 0 = .ok (.iload_n 0, 1) := by decide +kernel
theorem dX0_product_1 : decode cX0_product 1 = .ok (.tableswitch 128 0 6 #[43, 47, 57, 71, 89, 97, 120], 43) := by decide +kernel
theorem dX0_product_44 : decode cX0_product 44 = .ok (.iload_n 1, 1) := by decide +kernel
theorem dX0_product_45 : decode cX0_product 45 = .ok (.iload_n 2, 1) := by decide +kernel
theorem dX0_product_46 : decode cX0_product 46 = .ok (.imul, 1) := by decide +kernel
theorem dX0_product_47 : decode cX0_product 47 = .ok (.ireturn, 1) := by decide +kernel
theorem dX0_product_48 : decode cX0_product 48 = .ok (.iload_n 1, 1) := by decide +kernel
theorem dX0_product_49 : decode cX0_product 49 = .ok (.i2l, 1) := by decide +kernel
theorem dX0_product_50 : decode cX0_product 50 = .ok (.iload_n 2, 1) := by decide +kernel
theorem dX0_product_51 : decode cX0_product 51 = .ok (.i2l, 1) := by decide +kernel
theorem dX0_product_52 : decode cX0_product 52 = .ok (.lmul, 1) := by decide +kernel
theorem dX0_product_53 : decode cX0_product 53 = .ok (.bipush 32, 2) := by decide +kernel
theorem dX0_product_55 : decode cX0_product 55 = .ok (.lshr, 1) := by decide +kernel
theorem dX0_product_56 : decode cX0_product 56 = .ok (.l2i, 1) := by decide +kernel
theorem dX0_product_57 : decode cX0_product 57 = .ok (.ireturn, 1) := by decide +kernel
theorem dX0_product_58 : decode cX0_product 58 = .ok (.iload_n 1, 1) := by decide +kernel
theorem dX0_product_59 : decode cX0_product 59 = .ok (.i2l, 1) := by decide +kernel
theorem dX0_product_60 : decode cX0_product 60 = .ok (.iload_n 2, 1) := by decide +kernel
theorem dX0_product_61 : decode cX0_product 61 = .ok (.i2l, 1) := by decide +kernel
theorem dX0_product_62 : decode cX0_product 62 = .ok (.ldc2_w 70, 3) := by decide +kernel
theorem dX0_product_65 : decode cX0_product 65 = .ok (.land, 1) := by decide +kernel
theorem dX0_product_66 : decode cX0_product 66 = .ok (.lmul, 1) := by decide +kernel
theorem dX0_product_67 : decode cX0_product 67 = .ok (.bipush 32, 2) := by decide +kernel
theorem dX0_product_69 : decode cX0_product 69 = .ok (.lshr, 1) := by decide +kernel
theorem dX0_product_70 : decode cX0_product 70 = .ok (.l2i, 1) := by decide +kernel
theorem dX0_product_71 : decode cX0_product 71 = .ok (.ireturn, 1) := by decide +kernel
theorem dX0_product_72 : decode cX0_product 72 = .ok (.iload_n 1, 1) := by decide +kernel
theorem dX0_product_73 : decode cX0_product 73 = .ok (.i2l, 1) := by decide +kernel
theorem dX0_product_74 : decode cX0_product 74 = .ok (.ldc2_w 70, 3) := by decide +kernel
theorem dX0_product_77 : decode cX0_product 77 = .ok (.land, 1) := by decide +kernel
theorem dX0_product_78 : decode cX0_product 78 = .ok (.iload_n 2, 1) := by decide +kernel
theorem dX0_product_79 : decode cX0_product 79 = .ok (.i2l, 1) := by decide +kernel
theorem dX0_product_80 : decode cX0_product 80 = .ok (.ldc2_w 70, 3) := by decide +kernel
theorem dX0_product_83 : decode cX0_product 83 = .ok (.land, 1) := by decide +kernel
theorem dX0_product_84 : decode cX0_product 84 = .ok (.lmul, 1) := by decide +kernel
theorem dX0_product_85 : decode cX0_product 85 = .ok (.bipush 32, 2) := by decide +kernel
theorem dX0_product_87 : decode cX0_product 87 = .ok (.lushr, 1) := by decide +kernel
theorem dX0_product_88 : decode cX0_product 88 = .ok (.l2i, 1) := by decide +kernel
theorem dX0_product_89 : decode cX0_product 89 = .ok (.ireturn, 1) := by decide +kernel
theorem dX0_product_90 : decode cX0_product 90 = .ok (.bipush 60, 2) := by decide +kernel
theorem dX0_product_92 : decode cX0_product 92 = .ok (.iload_n 1, 1) := by decide +kernel
theorem dX0_product_93 : decode cX0_product 93 = .ok (.iload_n 2, 1) := by decide +kernel
theorem dX0_product_94 : decode cX0_product 94 = .ok (.invokestatic 87, 3) := by decide +kernel
theorem dX0_product_97 : decode cX0_product 97 = .ok (.ireturn, 1) := by decide +kernel
theorem dX0_product_98 : decode cX0_product 98 = .ok (.iload_n 2, 1) := by decide +kernel
theorem dX0_product_99 : decode cX0_product 99 = .ok (.ifCond .ne 7, 3) := by decide +kernel
theorem dX0_product_102 : decode cX0_product 102 = .ok (.iconst (-1), 1) := by decide +kernel
theorem dX0_product_103 : decode cX0_product 103 = .ok (.goto 17, 3) := by decide +kernel
theorem dX0_product_106 : decode cX0_product 106 = .ok (.iload_n 1, 1) := by decide +kernel
theorem dX0_product_107 : decode cX0_product 107 = .ok (.i2l, 1) := by decide +kernel
theorem dX0_product_108 : decode cX0_product 108 = .ok (.ldc2_w 70, 3) := by decide +kernel
theorem dX0_product_111 : decode cX0_product 111 = .ok (.land, 1) := by decide +kernel
theorem dX0_product_112 : decode cX0_product 112 = .ok (.iload_n 2, 1) := by decide +kernel
theorem dX0_product_113 : decode cX0_product 113 = .ok (.i2l, 1) := by decide +kernel
theorem dX0_product_114 : decode cX0_product 114 = .ok (.ldc2_w 70, 3) := by decide +kernel
theorem dX0_product_117 : decode cX0_product 117 = .ok (.land, 1) := by decide +kernel
theorem dX0_product_118 : decode cX0_product 118 = .ok (.ldiv, 1) := by decide +kernel
theorem dX0_product_119 : decode cX0_product 119 = .ok (.l2i, 1) := by decide +kernel
theorem dX0_product_120 : decode cX0_product 120 = .ok (.ireturn, 1) := by decide +kernel
theorem dX0_product_121 : decode cX0_product 121 = .ok (.bipush 61, 2) := by decide +kernel
theorem dX0_product_123 : decode cX0_product 123 = .ok (.iload_n 1, 1) := by decide +kernel
theorem dX0_product_124 : decode cX0_product 124 = .ok (.iload_n 2, 1) := by decide +kernel
theorem dX0_product_125 : decode cX0_product 125 = .ok (.invokestatic 87, 3) := by decide +kernel
theorem dX0_product_128 : decode cX0_product 128 = .ok (.ireturn, 1) := by decide +kernel
theorem dX0_product_129 : decode cX0_product 129 = .ok (.iload_n 2, 1) := by decide +kernel
theorem dX0_product_130 : decode cX0_product 130 = .ok (.ifCond .ne 7, 3) := by decide +kernel
theorem dX0_product_133 : decode cX0_product 133 = .ok (.iload_n 1, 1) := by decide +kernel
theorem dX0_product_134 : decode cX0_product 134 = .ok (.goto 17, 3) := by decide +kernel
theorem dX0_product_137 : decode cX0_product 137 = .ok (.iload_n 1, 1) := by decide +kernel
theorem dX0_product_138 : decode cX0_product 138 = .ok (.i2l, 1) := by decide +kernel
theorem dX0_product_139 : decode cX0_product 139 = .ok (.ldc2_w 70, 3) := by decide +kernel
theorem dX0_product_142 : decode cX0_product 142 = .ok (.land, 1) := by decide +kernel
theorem dX0_product_143 : decode cX0_product 143 = .ok (.iload_n 2, 1) := by decide +kernel
theorem dX0_product_144 : decode cX0_product 144 = .ok (.i2l, 1) := by decide +kernel
theorem dX0_product_145 : decode cX0_product 145 = .ok (.ldc2_w 70, 3) := by decide +kernel
theorem dX0_product_148 : decode cX0_product 148 = .ok (.land, 1) := by decide +kernel
theorem dX0_product_149 : decode cX0_product 149 = .ok (.lrem, 1) := by decide +kernel
theorem dX0_product_150 : decode cX0_product 150 = .ok (.l2i, 1) := by decide +kernel
theorem dX0_product_151 : decode cX0_product 151 = .ok (.ireturn, 1) := by decide +kernel
theorem dX1_init_0 : decode cX1_init 0 = .ok (.aload_n 0, 1) := by decide +kernel
theorem dX1_init_1 : decode cX1_init 1 = .ok (.invokespecial 3, 3) := by decide +kernel
theorem dX1_init_4 : decode cX1_init 4 = .ok (.aload_n 0, 1) := by decide +kernel
theorem dX1_init_5 : decode cX1_init 5 = .ok (.sipush 8400, 3) := by decide +kernel
theorem dX1_init_8 : decode cX1_init 8 = .ok (.newarray .int, 2) := by decide +kernel
theorem dX1_init_10 : decode cX1_init 10 = .ok (.putfield 11, 3) := by decide +kernel
theorem dX1_init_13 : decode cX1_init 13 = .ok (.return_, 1) := by decide +kernel
theorem dX1_add_0 : decode cX1_add 0 = .ok (.aload_n 0, 1) := by decide +kernel
theorem dX1_add_1 : decode cX1_add 1 = .ok (.getfield 15, 3) := by decide +kernel
theorem dX1_add_4 : decode cX1_add 4 = .ok (.ifCond .eq 33, 3) := by decide +kernel
theorem dX1_add_7 : decode cX1_add 7 = .ok (.aload_n 0, 1) := by decide +kernel
theorem dX1_add_8 : decode cX1_add 8 = .ok (.getfield 19, 3) := by decide +kernel
theorem dX1_add_11 : decode cX1_add 11 = .ok (.sipush 8400, 3) := by decide +kernel
theorem dX1_add_14 : decode cX1_add 14 = .ok (.if_icmp .ge 23, 3) := by decide +kernel
theorem dX1_add_17 : decode cX1_add 17 = .ok (.aload_n 0, 1) := by decide +kernel
theorem dX1_add_18 : decode cX1_add 18 = .ok (.getfield 11, 3) := by decide +kernel
theorem dX1_add_21 : decode cX1_add 21 = .ok (.aload_n 0, 1) := by decide +kernel
theorem dX1_add_22 : decode cX1_add 22 = .ok (.getfield 19, 3) := by decide +kernel
theorem dX1_add_25 : decode cX1_add 25 = .ok (.iload_n 1, 1) := by decide +kernel
theorem dX1_add_26 : decode cX1_add 26 = .ok (.iastore, 1) := by decide +kernel
theorem dX1_add_27 : decode cX1_add 27 = .ok (.aload_n 0, 1) := by decide +kernel
theorem dX1_add_28 : decode cX1_add 28 = .ok (.dup, 1) := by decide +kernel
theorem dX1_add_29 : decode cX1_add 29 = .ok (.getfield 19, 3) := by decide +kernel
theorem dX1_add_32 : decode cX1_add 32 = .ok (.iconst 1, 1) := by decide +kernel
theorem dX1_add_33 : decode cX1_add 33 = .ok (.iadd, 1) := by decide +kernel
theorem dX1_add_34 : decode cX1_add 34 = .ok (.putfield 19, 3) := by decide +kernel
theorem dX1_add_37 : decode cX1_add 37 = .ok (.return_, 1) := by decide +kernel
theorem dX1_addPair_0 : decode cX1_addPair 0 = .ok (.aload_n 0, 1) := by decide +kernel
theorem dX1_addPair_1 : decode cX1_addPair 1 = .ok (.getfield 15, 3) := by decide +kernel
theorem dX1_addPair_4 : decode cX1_addPair 4 = .ok (.ifCond .eq 45, 3) := by decide +kernel
theorem dX1_addPair_7 : decode cX1_addPair 7 = .ok (.aload_n 0, 1) := by decide +kernel
theorem dX1_addPair_8 : decode cX1_addPair 8 = .ok (.getfield 19, 3) := by decide +kernel
theorem dX1_addPair_11 : decode cX1_addPair 11 = .ok (.sipush 8399, 3) := by decide +kernel
theorem dX1_addPair_14 : decode cX1_addPair 14 = .ok (.if_icmp .ge 35, 3) := by decide +kernel
theorem dX1_addPair_17 : decode cX1_addPair 17 = .ok (.aload_n 0, 1) := by decide +kernel
theorem dX1_addPair_18 : decode cX1_addPair 18 = .ok (.getfield 11, 3) := by decide +kernel
theorem dX1_addPair_21 : decode cX1_addPair 21 = .ok (.aload_n 0, 1) := by decide +kernel
theorem dX1_addPair_22 : decode cX1_addPair 22 = .ok (.getfield 19, 3) := by decide +kernel
theorem dX1_addPair_25 : decode cX1_addPair 25 = .ok (.iload_n 1, 1) := by decide +kernel
theorem dX1_addPair_26 : decode cX1_addPair 26 = .ok (.iastore, 1) := by decide +kernel
theorem dX1_addPair_27 : decode cX1_addPair 27 = .ok (.aload_n 0, 1) := by decide +kernel
theorem dX1_addPair_28 : decode cX1_addPair 28 = .ok (.getfield 11, 3) := by decide +kernel
theorem dX1_addPair_31 : decode cX1_addPair 31 = .ok (.aload_n 0, 1) := by decide +kernel
theorem dX1_addPair_32 : decode cX1_addPair 32 = .ok (.getfield 19, 3) := by decide +kernel
theorem dX1_addPair_35 : decode cX1_addPair 35 = .ok (.iconst 1, 1) := by decide +kernel
theorem dX1_addPair_36 : decode cX1_addPair 36 = .ok (.iadd, 1) := by decide +kernel
theorem dX1_addPair_37 : decode cX1_addPair 37 = .ok (.iload_n 2, 1) := by decide +kernel
theorem dX1_addPair_38 : decode cX1_addPair 38 = .ok (.iastore, 1) := by decide +kernel
theorem dX1_addPair_39 : decode cX1_addPair 39 = .ok (.aload_n 0, 1) := by decide +kernel
theorem dX1_addPair_40 : decode cX1_addPair 40 = .ok (.dup, 1) := by decide +kernel
theorem dX1_addPair_41 : decode cX1_addPair 41 = .ok (.getfield 19, 3) := by decide +kernel
theorem dX1_addPair_44 : decode cX1_addPair 44 = .ok (.iconst 2, 1) := by decide +kernel
theorem dX1_addPair_45 : decode cX1_addPair 45 = .ok (.iadd, 1) := by decide +kernel
theorem dX1_addPair_46 : decode cX1_addPair 46 = .ok (.putfield 19, 3) := by decide +kernel
theorem dX1_addPair_49 : decode cX1_addPair 49 = .ok (.return_, 1) := by decide +kernel
theorem dX1_addJump_0 : decode cX1_addJump 0 = .ok (.aload_n 0, 1) := by decide +kernel
theorem dX1_addJump_1 : decode cX1_addJump 1 = .ok (.getfield 15, 3) := by decide +kernel
theorem dX1_addJump_4 : decode cX1_addJump 4 = .ok (.ifCond .eq 13, 3) := by decide +kernel
theorem dX1_addJump_7 : decode cX1_addJump 7 = .ok (.aload_n 0, 1) := by decide +kernel
theorem dX1_addJump_8 : decode cX1_addJump 8 = .ok (.getfield 19, 3) := by decide +kernel
theorem dX1_addJump_11 : decode cX1_addJump 11 = .ok (.sipush 8399, 3) := by decide +kernel
theorem dX1_addJump_14 : decode cX1_addJump 14 = .ok (.if_icmp .lt 5, 3) := by decide +kernel
theorem dX1_addJump_17 : decode cX1_addJump 17 = .ok (.iconst (-1), 1) := by decide +kernel
theorem dX1_addJump_18 : decode cX1_addJump 18 = .ok (.ireturn, 1) := by decide +kernel
theorem dX1_addJump_19 : decode cX1_addJump 19 = .ok (.aload_n 0, 1) := by decide +kernel
theorem dX1_addJump_20 : decode cX1_addJump 20 = .ok (.getfield 11, 3) := by decide +kernel
theorem dX1_addJump_23 : decode cX1_addJump 23 = .ok (.aload_n 0, 1) := by decide +kernel
theorem dX1_addJump_24 : decode cX1_addJump 24 = .ok (.getfield 19, 3) := by decide +kernel
theorem dX1_addJump_27 : decode cX1_addJump 27 = .ok (.iload_n 1, 1) := by decide +kernel
theorem dX1_addJump_28 : decode cX1_addJump 28 = .ok (.iastore, 1) := by decide +kernel
theorem dX1_addJump_29 : decode cX1_addJump 29 = .ok (.aload_n 0, 1) := by decide +kernel
theorem dX1_addJump_30 : decode cX1_addJump 30 = .ok (.getfield 11, 3) := by decide +kernel
theorem dX1_addJump_33 : decode cX1_addJump 33 = .ok (.aload_n 0, 1) := by decide +kernel
theorem dX1_addJump_34 : decode cX1_addJump 34 = .ok (.getfield 19, 3) := by decide +kernel
theorem dX1_addJump_37 : decode cX1_addJump 37 = .ok (.iconst 1, 1) := by decide +kernel
theorem dX1_addJump_38 : decode cX1_addJump 38 = .ok (.iadd, 1) := by decide +kernel
theorem dX1_addJump_39 : decode cX1_addJump 39 = .ok (.iload_n 2, 1) := by decide +kernel
theorem dX1_addJump_40 : decode cX1_addJump 40 = .ok (.iastore, 1) := by decide +kernel
theorem dX1_addJump_41 : decode cX1_addJump 41 = .ok (.aload_n 0, 1) := by decide +kernel
theorem dX1_addJump_42 : decode cX1_addJump 42 = .ok (.dup, 1) := by decide +kernel
theorem dX1_addJump_43 : decode cX1_addJump 43 = .ok (.getfield 19, 3) := by decide +kernel
theorem dX1_addJump_46 : decode cX1_addJump 46 = .ok (.iconst 2, 1) := by decide +kernel
theorem dX1_addJump_47 : decode cX1_addJump 47 = .ok (.iadd, 1) := by decide +kernel
theorem dX1_addJump_48 : decode cX1_addJump 48 = .ok (.putfield 19, 3) := by decide +kernel
theorem dX1_addJump_51 : decode cX1_addJump 51 = .ok (.aload_n 0, 1) := by decide +kernel
theorem dX1_addJump_52 : decode cX1_addJump 52 = .ok (.getfield 19, 3) := by decide +kernel
theorem dX1_addJump_55 : decode cX1_addJump 55 = .ok (.iconst 1, 1) := by decide +kernel
theorem dX1_addJump_56 : decode cX1_addJump 56 = .ok (.isub, 1) := by decide +kernel
theorem dX1_addJump_57 : decode cX1_addJump 57 = .ok (.ireturn, 1) := by decide +kernel
theorem dX1_aim_0 : decode cX1_aim 0 = .ok (.iload_n 1, 1) := by decide +kernel
theorem dX1_aim_1 : decode cX1_aim 1 = .ok (.istore_n 3, 1) := by decide +kernel
theorem dX1_aim_2 : decode cX1_aim 2 = .ok (.iconst 0, 1) := by decide +kernel
theorem dX1_aim_3 : decode cX1_aim 3 = .ok (.istore 4, 2) := by decide +kernel
theorem dX1_aim_5 : decode cX1_aim 5 = .ok (.iload 4, 2) := by decide +kernel
theorem dX1_aim_7 : decode cX1_aim 7 = .ok (.sipush 8400, 3) := by decide +kernel
theorem dX1_aim_10 : decode cX1_aim 10 = .ok (.if_icmp .ge 39, 3) := by decide +kernel
theorem dX1_aim_13 : decode cX1_aim 13 = .ok (.iload_n 3, 1) := by decide +kernel
theorem dX1_aim_14 : decode cX1_aim 14 = .ok (.ifCond .lt 35, 3) := by decide +kernel
theorem dX1_aim_17 : decode cX1_aim 17 = .ok (.iload_n 3, 1) := by decide +kernel
theorem dX1_aim_18 : decode cX1_aim 18 = .ok (.aload_n 0, 1) := by decide +kernel
theorem dX1_aim_19 : decode cX1_aim 19 = .ok (.getfield 19, 3) := by decide +kernel
theorem dX1_aim_22 : decode cX1_aim 22 = .ok (.if_icmp .ge 27, 3) := by decide +kernel
theorem dX1_aim_25 : decode cX1_aim 25 = .ok (.aload_n 0, 1) := by decide +kernel
theorem dX1_aim_26 : decode cX1_aim 26 = .ok (.getfield 11, 3) := by decide +kernel
theorem dX1_aim_29 : decode cX1_aim 29 = .ok (.iload_n 3, 1) := by decide +kernel
theorem dX1_aim_30 : decode cX1_aim 30 = .ok (.iaload, 1) := by decide +kernel
theorem dX1_aim_31 : decode cX1_aim 31 = .ok (.istore 5, 2) := by decide +kernel
theorem dX1_aim_33 : decode cX1_aim 33 = .ok (.aload_n 0, 1) := by decide +kernel
theorem dX1_aim_34 : decode cX1_aim 34 = .ok (.getfield 11, 3) := by decide +kernel
theorem dX1_aim_37 : decode cX1_aim 37 = .ok (.iload_n 3, 1) := by decide +kernel
theorem dX1_aim_38 : decode cX1_aim 38 = .ok (.iload_n 2, 1) := by decide +kernel
theorem dX1_aim_39 : decode cX1_aim 39 = .ok (.iastore, 1) := by decide +kernel
theorem dX1_aim_40 : decode cX1_aim 40 = .ok (.iload 5, 2) := by decide +kernel
theorem dX1_aim_42 : decode cX1_aim 42 = .ok (.istore_n 3, 1) := by decide +kernel
theorem dX1_aim_43 : decode cX1_aim 43 = .ok (.iinc 4 1, 3) := by decide +kernel
theorem dX1_aim_46 : decode cX1_aim 46 = .ok (.goto (-41), 3) := by decide +kernel
theorem dX1_aim_49 : decode cX1_aim 49 = .ok (.return_, 1) := by decide +kernel
theorem dX1_cut_0 : decode cX1_cut 0 = .ok (.iload_n 1, 1) := by decide +kernel
theorem dX1_cut_1 : decode cX1_cut 1 = .ok (.ifCond .lt 16, 3) := by decide +kernel
theorem dX1_cut_4 : decode cX1_cut 4 = .ok (.iload_n 1, 1) := by decide +kernel
theorem dX1_cut_5 : decode cX1_cut 5 = .ok (.aload_n 0, 1) := by decide +kernel
theorem dX1_cut_6 : decode cX1_cut 6 = .ok (.getfield 19, 3) := by decide +kernel
theorem dX1_cut_9 : decode cX1_cut 9 = .ok (.if_icmp .ge 8, 3) := by decide +kernel
theorem dX1_cut_12 : decode cX1_cut 12 = .ok (.aload_n 0, 1) := by decide +kernel
theorem dX1_cut_13 : decode cX1_cut 13 = .ok (.iload_n 1, 1) := by decide +kernel
theorem dX1_cut_14 : decode cX1_cut 14 = .ok (.putfield 19, 3) := by decide +kernel
theorem dX1_cut_17 : decode cX1_cut 17 = .ok (.return_, 1) := by decide +kernel
theorem dX2_init_0 : decode cX2_init 0 = .ok (.aload_n 0, 1) := by decide +kernel
theorem dX2_init_1 : decode cX2_init 1 = .ok (.invokespecial 3, 3) := by decide +kernel
theorem dX2_init_4 : decode cX2_init 4 = .ok (.aload_n 0, 1) := by decide +kernel
theorem dX2_init_5 : decode cX2_init 5 = .ok (.aload_n 1, 1) := by decide +kernel
theorem dX2_init_6 : decode cX2_init 6 = .ok (.putfield 9, 3) := by decide +kernel
theorem dX2_init_9 : decode cX2_init 9 = .ok (.return_, 1) := by decide +kernel
theorem dX2_start_0 : decode cX2_start 0 = .ok (.aload_n 0, 1) := by decide +kernel
theorem dX2_start_1 : decode cX2_start 1 = .ok (.iconst 0, 1) := by decide +kernel
theorem dX2_start_2 : decode cX2_start 2 = .ok (.putfield 15, 3) := by decide +kernel
theorem dX2_start_5 : decode cX2_start 5 = .ok (.aload_n 0, 1) := by decide +kernel
theorem dX2_start_6 : decode cX2_start 6 = .ok (.iconst 0, 1) := by decide +kernel
theorem dX2_start_7 : decode cX2_start 7 = .ok (.putfield 19, 3) := by decide +kernel
theorem dX2_start_10 : decode cX2_start 10 = .ok (.aload_n 0, 1) := by decide +kernel
theorem dX2_start_11 : decode cX2_start 11 = .ok (.iconst 0, 1) := by decide +kernel
theorem dX2_start_12 : decode cX2_start 12 = .ok (.invokevirtual 22, 3) := by decide +kernel
theorem dX2_start_15 : decode cX2_start 15 = .ok (.return_, 1) := by decide +kernel
theorem dX2_isNameAlone_0 : decode cX2_isNameAlone 0 = .ok (.aload_n 0, 1) := by decide +kernel
theorem dX2_isNameAlone_1 : decode cX2_isNameAlone 1 = .ok (.getfield 9, 3) := by decide +kernel
theorem dX2_isNameAlone_4 : decode cX2_isNameAlone 4 = .ok (.aload_n 0, 1) := by decide +kernel
theorem dX2_isNameAlone_5 : decode cX2_isNameAlone 5 = .ok (.getfield 26, 3) := by decide +kernel
theorem dX2_isNameAlone_8 : decode cX2_isNameAlone 8 = .ok (.iconst 1, 1) := by decide +kernel
theorem dX2_isNameAlone_9 : decode cX2_isNameAlone 9 = .ok (.iadd, 1) := by decide +kernel
theorem dX2_isNameAlone_10 : decode cX2_isNameAlone 10 = .ok (.invokevirtual 29, 3) := by decide +kernel
theorem dX2_isNameAlone_13 : decode cX2_isNameAlone 13 = .ok (.istore_n 1, 1) := by decide +kernel
theorem dX2_isNameAlone_14 : decode cX2_isNameAlone 14 = .ok (.aload_n 0, 1) := by decide +kernel
theorem dX2_isNameAlone_15 : decode cX2_isNameAlone 15 = .ok (.getfield 35, 3) := by decide +kernel
theorem dX2_isNameAlone_18 : decode cX2_isNameAlone 18 = .ok (.iconst 2, 1) := by decide +kernel
theorem dX2_isNameAlone_19 : decode cX2_isNameAlone 19 = .ok (.if_icmp .ne 19, 3) := by decide +kernel
theorem dX2_isNameAlone_22 : decode cX2_isNameAlone 22 = .ok (.iload_n 1, 1) := by decide +kernel
theorem dX2_isNameAlone_23 : decode cX2_isNameAlone 23 = .ok (.bipush 25, 2) := by decide +kernel
theorem dX2_isNameAlone_25 : decode cX2_isNameAlone 25 = .ok (.if_icmp .eq 9, 3) := by decide +kernel
theorem dX2_isNameAlone_28 : decode cX2_isNameAlone 28 = .ok (.iload_n 1, 1) := by decide +kernel
theorem dX2_isNameAlone_29 : decode cX2_isNameAlone 29 = .ok (.bipush 20, 2) := by decide +kernel
theorem dX2_isNameAlone_31 : decode cX2_isNameAlone 31 = .ok (.if_icmp .ne 7, 3) := by decide +kernel
theorem dX2_isNameAlone_34 : decode cX2_isNameAlone 34 = .ok (.iconst 1, 1) := by decide +kernel
theorem dX2_isNameAlone_35 : decode cX2_isNameAlone 35 = .ok (.goto 4, 3) := by decide +kernel
theorem dX2_isNameAlone_38 : decode cX2_isNameAlone 38 = .ok (.iconst 0, 1) := by decide +kernel
theorem dX2_isNameAlone_39 : decode cX2_isNameAlone 39 = .ok (.ireturn, 1) := by decide +kernel
theorem dX2_next_0 : decode cX2_next 0 = .ok (.aload_n 0, 1) := by decide +kernel
theorem dX2_next_1 : decode cX2_next 1 = .ok (.getfield 19, 3) := by decide +kernel
theorem dX2_next_4 : decode cX2_next 4 = .ok (.ifCond .ne 13, 3) := by decide +kernel
theorem dX2_next_7 : decode cX2_next 7 = .ok (.aload_n 0, 1) := by decide +kernel
theorem dX2_next_8 : decode cX2_next 8 = .ok (.aload_n 0, 1) := by decide +kernel
theorem dX2_next_9 : decode cX2_next 9 = .ok (.getfield 26, 3) := by decide +kernel
theorem dX2_next_12 : decode cX2_next 12 = .ok (.iconst 1, 1) := by decide +kernel
theorem dX2_next_13 : decode cX2_next 13 = .ok (.iadd, 1) := by decide +kernel
theorem dX2_next_14 : decode cX2_next 14 = .ok (.invokevirtual 22, 3) := by decide +kernel
theorem dX2_next_17 : decode cX2_next 17 = .ok (.return_, 1) := by decide +kernel
theorem dX2_comeTo_0 : decode cX2_comeTo 0 = .ok (.iload_n 1, 1) := by decide +kernel
theorem dX2_comeTo_1 : decode cX2_comeTo 1 = .ok (.ifCond .lt 14, 3) := by decide +kernel
theorem dX2_comeTo_4 : decode cX2_comeTo 4 = .ok (.iload_n 1, 1) := by decide +kernel
theorem dX2_comeTo_5 : decode cX2_comeTo 5 = .ok (.aload_n 0, 1) := by decide +kernel
theorem dX2_comeTo_6 : decode cX2_comeTo 6 = .ok (.getfield 9, 3) := by decide +kernel
theorem dX2_comeTo_9 : decode cX2_comeTo 9 = .ok (.getfield 37, 3) := by decide +kernel
theorem dX2_comeTo_12 : decode cX2_comeTo 12 = .ok (.if_icmp .lt 4, 3) := by decide +kernel
theorem dX2_comeTo_15 : decode cX2_comeTo 15 = .ok (.return_, 1) := by decide +kernel
theorem dX2_comeTo_16 : decode cX2_comeTo 16 = .ok (.aload_n 0, 1) := by decide +kernel
theorem dX2_comeTo_17 : decode cX2_comeTo 17 = .ok (.iload_n 1, 1) := by decide +kernel
theorem dX2_comeTo_18 : decode cX2_comeTo 18 = .ok (.putfield 26, 3) := by decide +kernel
theorem dX2_comeTo_21 : decode cX2_comeTo 21 = .ok (.aload_n 0, 1) := by decide +kernel
theorem dX2_comeTo_22 : decode cX2_comeTo 22 = .ok (.aload_n 0, 1) := by decide +kernel
theorem dX2_comeTo_23 : decode cX2_comeTo 23 = .ok (.getfield 9, 3) := by decide +kernel
theorem dX2_comeTo_26 : decode cX2_comeTo 26 = .ok (.getfield 40, 3) := by decide +kernel
theorem dX2_comeTo_29 : decode cX2_comeTo 29 = .ok (.iload_n 1, 1) := by decide +kernel
theorem dX2_comeTo_30 : decode cX2_comeTo 30 = .ok (.iaload, 1) := by decide +kernel
theorem dX2_comeTo_31 : decode cX2_comeTo 31 = .ok (.putfield 35, 3) := by decide +kernel
theorem dX2_comeTo_34 : decode cX2_comeTo 34 = .ok (.aload_n 0, 1) := by decide +kernel
theorem dX2_comeTo_35 : decode cX2_comeTo 35 = .ok (.aload_n 0, 1) := by decide +kernel
theorem dX2_comeTo_36 : decode cX2_comeTo 36 = .ok (.getfield 9, 3) := by decide +kernel
theorem dX2_comeTo_39 : decode cX2_comeTo 39 = .ok (.getfield 44, 3) := by decide +kernel
theorem dX2_comeTo_42 : decode cX2_comeTo 42 = .ok (.iload_n 1, 1) := by decide +kernel
theorem dX2_comeTo_43 : decode cX2_comeTo 43 = .ok (.iaload, 1) := by decide +kernel
theorem dX2_comeTo_44 : decode cX2_comeTo 44 = .ok (.putfield 47, 3) := by decide +kernel
theorem dX2_comeTo_47 : decode cX2_comeTo 47 = .ok (.aload_n 0, 1) := by decide +kernel
theorem dX2_comeTo_48 : decode cX2_comeTo 48 = .ok (.aload_n 0, 1) := by decide +kernel
theorem dX2_comeTo_49 : decode cX2_comeTo 49 = .ok (.getfield 9, 3) := by decide +kernel
theorem dX2_comeTo_52 : decode cX2_comeTo 52 = .ok (.getfield 50, 3) := by decide +kernel
theorem dX2_comeTo_55 : decode cX2_comeTo 55 = .ok (.iload_n 1, 1) := by decide +kernel
theorem dX2_comeTo_56 : decode cX2_comeTo 56 = .ok (.iaload, 1) := by decide +kernel
theorem dX2_comeTo_57 : decode cX2_comeTo 57 = .ok (.putfield 53, 3) := by decide +kernel
theorem dX2_comeTo_60 : decode cX2_comeTo 60 = .ok (.aload_n 0, 1) := by decide +kernel
theorem dX2_comeTo_61 : decode cX2_comeTo 61 = .ok (.getfield 35, 3) := by decide +kernel
theorem dX2_comeTo_64 : decode cX2_comeTo 64 = .ok (.iconst 1, 1) := by decide +kernel
theorem dX2_comeTo_65 : decode cX2_comeTo 65 = .ok (.if_icmp .ne 22, 3) := by decide +kernel
theorem dX2_comeTo_68 : decode cX2_comeTo 68 = .ok (.aload_n 0, 1) := by decide +kernel
theorem dX2_comeTo_69 : decode cX2_comeTo 69 = .ok (.aload_n 0, 1) := by decide +kernel
theorem dX2_comeTo_70 : decode cX2_comeTo 70 = .ok (.getfield 53, 3) := by decide +kernel
theorem dX2_comeTo_73 : decode cX2_comeTo 73 = .ok (.bipush 16, 2) := by decide +kernel
theorem dX2_comeTo_75 : decode cX2_comeTo 75 = .ok (.imul, 1) := by decide +kernel
theorem dX2_comeTo_76 : decode cX2_comeTo 76 = .ok (.iconst 1, 1) := by decide +kernel
theorem dX2_comeTo_77 : decode cX2_comeTo 77 = .ok (.iadd, 1) := by decide +kernel
theorem dX2_comeTo_78 : decode cX2_comeTo 78 = .ok (.putfield 19, 3) := by decide +kernel
theorem dX2_comeTo_81 : decode cX2_comeTo 81 = .ok (.aload_n 0, 1) := by decide +kernel
theorem dX2_comeTo_82 : decode cX2_comeTo 82 = .ok (.bipush (-2), 2) := by decide +kernel
theorem dX2_comeTo_84 : decode cX2_comeTo 84 = .ok (.putfield 35, 3) := by decide +kernel
theorem dX2_comeTo_87 : decode cX2_comeTo 87 = .ok (.return_, 1) := by decide +kernel
theorem dX2_fail_0 : decode cX2_fail 0 = .ok (.aload_n 0, 1) := by decide +kernel
theorem dX2_fail_1 : decode cX2_fail 1 = .ok (.getfield 19, 3) := by decide +kernel
theorem dX2_fail_4 : decode cX2_fail 4 = .ok (.ifCond .ne 16, 3) := by decide +kernel
theorem dX2_fail_7 : decode cX2_fail 7 = .ok (.aload_n 0, 1) := by decide +kernel
theorem dX2_fail_8 : decode cX2_fail 8 = .ok (.aload_n 0, 1) := by decide +kernel
theorem dX2_fail_9 : decode cX2_fail 9 = .ok (.getfield 53, 3) := by decide +kernel
theorem dX2_fail_12 : decode cX2_fail 12 = .ok (.bipush 16, 2) := by decide +kernel
theorem dX2_fail_14 : decode cX2_fail 14 = .ok (.imul, 1) := by decide +kernel
theorem dX2_fail_15 : decode cX2_fail 15 = .ok (.iload_n 1, 1) := by decide +kernel
theorem dX2_fail_16 : decode cX2_fail 16 = .ok (.iadd, 1) := by decide +kernel
theorem dX2_fail_17 : decode cX2_fail 17 = .ok (.putfield 19, 3) := by decide +kernel
theorem dX2_fail_20 : decode cX2_fail 20 = .ok (.aload_n 0, 1) := by decide +kernel
theorem dX2_fail_21 : decode cX2_fail 21 = .ok (.bipush (-2), 2) := by decide +kernel
theorem dX2_fail_23 : decode cX2_fail 23 = .ok (.putfield 35, 3) := by decide +kernel
theorem dX2_fail_26 : decode cX2_fail 26 = .ok (.return_, 1) := by decide +kernel
theorem dX2_expect_0 : decode cX2_expect 0 = .ok (.aload_n 0, 1) := by decide +kernel
theorem dX2_expect_1 : decode cX2_expect 1 = .ok (.getfield 35, 3) := by decide +kernel
theorem dX2_expect_4 : decode cX2_expect 4 = .ok (.iload_n 1, 1) := by decide +kernel
theorem dX2_expect_5 : decode cX2_expect 5 = .ok (.if_icmp .ne 16, 3) := by decide +kernel
theorem dX2_expect_8 : decode cX2_expect 8 = .ok (.aload_n 0, 1) := by decide +kernel
theorem dX2_expect_9 : decode cX2_expect 9 = .ok (.aload_n 0, 1) := by decide +kernel
theorem dX2_expect_10 : decode cX2_expect 10 = .ok (.getfield 26, 3) := by decide +kernel
theorem dX2_expect_13 : decode cX2_expect 13 = .ok (.iconst 1, 1) := by decide +kernel
theorem dX2_expect_14 : decode cX2_expect 14 = .ok (.iadd, 1) := by decide +kernel
theorem dX2_expect_15 : decode cX2_expect 15 = .ok (.invokevirtual 22, 3) := by decide +kernel
theorem dX2_expect_18 : decode cX2_expect 18 = .ok (.goto 8, 3) := by decide +kernel
theorem dX2_expect_21 : decode cX2_expect 21 = .ok (.aload_n 0, 1) := by decide +kernel
theorem dX2_expect_22 : decode cX2_expect 22 = .ok (.iconst 2, 1) := by decide +kernel
theorem dX2_expect_23 : decode cX2_expect 23 = .ok (.invokevirtual 56, 3) := by decide +kernel
theorem dX2_expect_26 : decode cX2_expect 26 = .ok (.return_, 1) := by decide +kernel
theorem dX2_opens_0 : decode cX2_opens 0 = .ok (.aload_n 0, 1) := by decide +kernel
theorem dX2_opens_1 : decode cX2_opens 1 = .ok (.getfield 35, 3) := by decide +kernel
theorem dX2_opens_4 : decode cX2_opens 4 = .ok (.iload_n 1, 1) := by decide +kernel
theorem dX2_opens_5 : decode cX2_opens 5 = .ok (.if_icmp .eq 10, 3) := by decide +kernel
theorem dX2_opens_8 : decode cX2_opens 8 = .ok (.aload_n 0, 1) := by decide +kernel
theorem dX2_opens_9 : decode cX2_opens 9 = .ok (.iconst 2, 1) := by decide +kernel
theorem dX2_opens_10 : decode cX2_opens 10 = .ok (.invokevirtual 56, 3) := by decide +kernel
theorem dX2_opens_13 : decode cX2_opens 13 = .ok (.iconst 0, 1) := by decide +kernel
theorem dX2_opens_14 : decode cX2_opens 14 = .ok (.ireturn, 1) := by decide +kernel
theorem dX2_opens_15 : decode cX2_opens 15 = .ok (.aload_n 0, 1) := by decide +kernel
theorem dX2_opens_16 : decode cX2_opens 16 = .ok (.getfield 15, 3) := by decide +kernel
theorem dX2_opens_19 : decode cX2_opens 19 = .ok (.bipush 40, 2) := by decide +kernel
theorem dX2_opens_21 : decode cX2_opens 21 = .ok (.if_icmp .lt 10, 3) := by decide +kernel
theorem dX2_opens_24 : decode cX2_opens 24 = .ok (.aload_n 0, 1) := by decide +kernel
theorem dX2_opens_25 : decode cX2_opens 25 = .ok (.iconst 3, 1) := by decide +kernel
theorem dX2_opens_26 : decode cX2_opens 26 = .ok (.invokevirtual 56, 3) := by decide +kernel
theorem dX2_opens_29 : decode cX2_opens 29 = .ok (.iconst 0, 1) := by decide +kernel
theorem dX2_opens_30 : decode cX2_opens 30 = .ok (.ireturn, 1) := by decide +kernel
theorem dX2_opens_31 : decode cX2_opens 31 = .ok (.aload_n 0, 1) := by decide +kernel
theorem dX2_opens_32 : decode cX2_opens 32 = .ok (.dup, 1) := by decide +kernel
theorem dX2_opens_33 : decode cX2_opens 33 = .ok (.getfield 15, 3) := by decide +kernel
theorem dX2_opens_36 : decode cX2_opens 36 = .ok (.iconst 1, 1) := by decide +kernel
theorem dX2_opens_37 : decode cX2_opens 37 = .ok (.iadd, 1) := by decide +kernel
theorem dX2_opens_38 : decode cX2_opens 38 = .ok (.putfield 15, 3) := by decide +kernel
theorem dX2_opens_41 : decode cX2_opens 41 = .ok (.aload_n 0, 1) := by decide +kernel
theorem dX2_opens_42 : decode cX2_opens 42 = .ok (.aload_n 0, 1) := by decide +kernel
theorem dX2_opens_43 : decode cX2_opens 43 = .ok (.getfield 26, 3) := by decide +kernel
theorem dX2_opens_46 : decode cX2_opens 46 = .ok (.iconst 1, 1) := by decide +kernel
theorem dX2_opens_47 : decode cX2_opens 47 = .ok (.iadd, 1) := by decide +kernel
theorem dX2_opens_48 : decode cX2_opens 48 = .ok (.invokevirtual 22, 3) := by decide +kernel
theorem dX2_opens_51 : decode cX2_opens 51 = .ok (.iconst 1, 1) := by decide +kernel
theorem dX2_opens_52 : decode cX2_opens 52 = .ok (.ireturn, 1) := by decide +kernel
theorem dX2_closes_0 : decode cX2_closes 0 = .ok (.aload_n 0, 1) := by decide +kernel
theorem dX2_closes_1 : decode cX2_closes 1 = .ok (.dup, 1) := by decide +kernel
theorem dX2_closes_2 : decode cX2_closes 2 = .ok (.getfield 15, 3) := by decide +kernel
theorem dX2_closes_5 : decode cX2_closes 5 = .ok (.iconst 1, 1) := by decide +kernel
theorem dX2_closes_6 : decode cX2_closes 6 = .ok (.isub, 1) := by decide +kernel
theorem dX2_closes_7 : decode cX2_closes 7 = .ok (.putfield 15, 3) := by decide +kernel
theorem dX2_closes_10 : decode cX2_closes 10 = .ok (.return_, 1) := by decide +kernel
theorem dX2_closesWith_0 : decode cX2_closesWith 0 = .ok (.aload_n 0, 1) := by decide +kernel
theorem dX2_closesWith_1 : decode cX2_closesWith 1 = .ok (.dup, 1) := by decide +kernel
theorem dX2_closesWith_2 : decode cX2_closesWith 2 = .ok (.getfield 15, 3) := by decide +kernel
theorem dX2_closesWith_5 : decode cX2_closesWith 5 = .ok (.iconst 1, 1) := by decide +kernel
theorem dX2_closesWith_6 : decode cX2_closesWith 6 = .ok (.isub, 1) := by decide +kernel
theorem dX2_closesWith_7 : decode cX2_closesWith 7 = .ok (.putfield 15, 3) := by decide +kernel
theorem dX2_closesWith_10 : decode cX2_closesWith 10 = .ok (.aload_n 0, 1) := by decide +kernel
theorem dX2_closesWith_11 : decode cX2_closesWith 11 = .ok (.getfield 35, 3) := by decide +kernel
theorem dX2_closesWith_14 : decode cX2_closesWith 14 = .ok (.iload_n 1, 1) := by decide +kernel
theorem dX2_closesWith_15 : decode cX2_closesWith 15 = .ok (.if_icmp .ne 16, 3) := by decide +kernel
theorem dX2_closesWith_18 : decode cX2_closesWith 18 = .ok (.aload_n 0, 1) := by decide +kernel
theorem dX2_closesWith_19 : decode cX2_closesWith 19 = .ok (.aload_n 0, 1) := by decide +kernel
theorem dX2_closesWith_20 : decode cX2_closesWith 20 = .ok (.getfield 26, 3) := by decide +kernel
theorem dX2_closesWith_23 : decode cX2_closesWith 23 = .ok (.iconst 1, 1) := by decide +kernel
theorem dX2_closesWith_24 : decode cX2_closesWith 24 = .ok (.iadd, 1) := by decide +kernel
theorem dX2_closesWith_25 : decode cX2_closesWith 25 = .ok (.invokevirtual 22, 3) := by decide +kernel
theorem dX2_closesWith_28 : decode cX2_closesWith 28 = .ok (.goto 8, 3) := by decide +kernel
theorem dX2_closesWith_31 : decode cX2_closesWith 31 = .ok (.aload_n 0, 1) := by decide +kernel
theorem dX2_closesWith_32 : decode cX2_closesWith 32 = .ok (.iconst 2, 1) := by decide +kernel
theorem dX2_closesWith_33 : decode cX2_closesWith 33 = .ok (.invokevirtual 56, 3) := by decide +kernel
theorem dX2_closesWith_36 : decode cX2_closesWith 36 = .ok (.return_, 1) := by decide +kernel
theorem dX3_init_0 : decode cX3_init 0 = .ok (.aload_n 0, 1) := by decide +kernel
theorem dX3_init_1 : decode cX3_init 1 = .ok (.invokespecial 3, 3) := by decide +kernel
theorem dX3_init_4 : decode cX3_init 4 = .ok (.aload_n 0, 1) := by decide +kernel
theorem dX3_init_5 : decode cX3_init 5 = .ok (.sipush 4001, 3) := by decide +kernel
theorem dX3_init_8 : decode cX3_init 8 = .ok (.newarray .int, 2) := by decide +kernel
theorem dX3_init_10 : decode cX3_init 10 = .ok (.putfield 9, 3) := by decide +kernel
theorem dX3_init_13 : decode cX3_init 13 = .ok (.aload_n 0, 1) := by decide +kernel
theorem dX3_init_14 : decode cX3_init 14 = .ok (.aload_n 1, 1) := by decide +kernel
theorem dX3_init_15 : decode cX3_init 15 = .ok (.putfield 15, 3) := by decide +kernel
theorem dX3_init_18 : decode cX3_init 18 = .ok (.aload_n 0, 1) := by decide +kernel
theorem dX3_init_19 : decode cX3_init 19 = .ok (.aload_n 2, 1) := by decide +kernel
theorem dX3_init_20 : decode cX3_init 20 = .ok (.putfield 19, 3) := by decide +kernel
theorem dX3_init_23 : decode cX3_init 23 = .ok (.aload_n 0, 1) := by decide +kernel
theorem dX3_init_24 : decode cX3_init 24 = .ok (.aload_n 3, 1) := by decide +kernel
theorem dX3_init_25 : decode cX3_init 25 = .ok (.putfield 23, 3) := by decide +kernel
theorem dX3_init_28 : decode cX3_init 28 = .ok (.aload_n 0, 1) := by decide +kernel
theorem dX3_init_29 : decode cX3_init 29 = .ok (.aload 4, 2) := by decide +kernel
theorem dX3_init_31 : decode cX3_init 31 = .ok (.putfield 27, 3) := by decide +kernel
theorem dX3_init_34 : decode cX3_init 34 = .ok (.aload_n 0, 1) := by decide +kernel
theorem dX3_init_35 : decode cX3_init 35 = .ok (.aload 5, 2) := by decide +kernel
theorem dX3_init_37 : decode cX3_init 37 = .ok (.putfield 31, 3) := by decide +kernel
theorem dX3_init_40 : decode cX3_init 40 = .ok (.return_, 1) := by decide +kernel
theorem dX3_start_0 : decode cX3_start 0 = .ok (.aload_n 0, 1) := by decide +kernel
theorem dX3_start_1 : decode cX3_start 1 = .ok (.iconst 0, 1) := by decide +kernel
theorem dX3_start_2 : decode cX3_start 2 = .ok (.putfield 35, 3) := by decide +kernel
theorem dX3_start_5 : decode cX3_start 5 = .ok (.return_, 1) := by decide +kernel
theorem dX3_constant_0 : decode cX3_constant 0 = .ok (.aload_n 0, 1) := by decide +kernel
theorem dX3_constant_1 : decode cX3_constant 1 = .ok (.getfield 23, 3) := by decide +kernel
theorem dX3_constant_4 : decode cX3_constant 4 = .ok (.getfield 39, 3) := by decide +kernel
theorem dX3_constant_7 : decode cX3_constant 7 = .ok (.istore_n 1, 1) := by decide +kernel
theorem dX3_constant_8 : decode cX3_constant 8 = .ok (.aload_n 0, 1) := by decide +kernel
theorem dX3_constant_9 : decode cX3_constant 9 = .ok (.getfield 19, 3) := by decide +kernel
theorem dX3_constant_12 : decode cX3_constant 12 = .ok (.invokevirtual 44, 3) := by decide +kernel
theorem dX3_constant_15 : decode cX3_constant 15 = .ok (.aload_n 0, 1) := by decide +kernel
theorem dX3_constant_16 : decode cX3_constant 16 = .ok (.invokevirtual 49, 3) := by decide +kernel
theorem dX3_constant_19 : decode cX3_constant 19 = .ok (.aload_n 0, 1) := by decide +kernel
theorem dX3_constant_20 : decode cX3_constant 20 = .ok (.getfield 19, 3) := by decide +kernel
theorem dX3_constant_23 : decode cX3_constant 23 = .ok (.invokevirtual 52, 3) := by decide +kernel
theorem dX3_constant_26 : decode cX3_constant 26 = .ok (.ifCond .eq 14, 3) := by decide +kernel
theorem dX3_constant_29 : decode cX3_constant 29 = .ok (.aload_n 0, 1) := by decide +kernel
theorem dX3_constant_30 : decode cX3_constant 30 = .ok (.getfield 31, 3) := by decide +kernel
theorem dX3_constant_33 : decode cX3_constant 33 = .ok (.iload_n 1, 1) := by decide +kernel
theorem dX3_constant_34 : decode cX3_constant 34 = .ok (.invokevirtual 56, 3) := by decide +kernel
theorem dX3_constant_37 : decode cX3_constant 37 = .ok (.goto 4, 3) := by decide +kernel
theorem dX3_constant_40 : decode cX3_constant 40 = .ok (.iconst 0, 1) := by decide +kernel
theorem dX3_constant_41 : decode cX3_constant 41 = .ok (.istore_n 2, 1) := by decide +kernel
theorem dX3_constant_42 : decode cX3_constant 42 = .ok (.aload_n 0, 1) := by decide +kernel
theorem dX3_constant_43 : decode cX3_constant 43 = .ok (.getfield 23, 3) := by decide +kernel
theorem dX3_constant_46 : decode cX3_constant 46 = .ok (.iload_n 1, 1) := by decide +kernel
theorem dX3_constant_47 : decode cX3_constant 47 = .ok (.invokevirtual 62, 3) := by decide +kernel
theorem dX3_constant_50 : decode cX3_constant 50 = .ok (.iload_n 2, 1) := by decide +kernel
theorem dX3_constant_51 : decode cX3_constant 51 = .ok (.ireturn, 1) := by decide +kernel
theorem dX3_arraySize_0 : decode cX3_arraySize 0 = .ok (.aload_n 0, 1) := by decide +kernel
theorem dX3_arraySize_1 : decode cX3_arraySize 1 = .ok (.getfield 15, 3) := by decide +kernel
theorem dX3_arraySize_4 : decode cX3_arraySize 4 = .ok (.bipush 21, 2) := by decide +kernel
theorem dX3_arraySize_6 : decode cX3_arraySize 6 = .ok (.invokevirtual 66, 3) := by decide +kernel
theorem dX3_arraySize_9 : decode cX3_arraySize 9 = .ok (.ifCond .ne 5, 3) := by decide +kernel
theorem dX3_arraySize_12 : decode cX3_arraySize 12 = .ok (.iconst 0, 1) := by decide +kernel
theorem dX3_arraySize_13 : decode cX3_arraySize 13 = .ok (.ireturn, 1) := by decide +kernel
theorem dX3_arraySize_14 : decode cX3_arraySize 14 = .ok (.aload_n 0, 1) := by decide +kernel
theorem dX3_arraySize_15 : decode cX3_arraySize 15 = .ok (.getfield 15, 3) := by decide +kernel
theorem dX3_arraySize_18 : decode cX3_arraySize 18 = .ok (.getfield 72, 3) := by decide +kernel
theorem dX3_arraySize_21 : decode cX3_arraySize 21 = .ok (.istore_n 1, 1) := by decide +kernel
theorem dX3_arraySize_22 : decode cX3_arraySize 22 = .ok (.aload_n 0, 1) := by decide +kernel
theorem dX3_arraySize_23 : decode cX3_arraySize 23 = .ok (.getfield 23, 3) := by decide +kernel
theorem dX3_arraySize_26 : decode cX3_arraySize 26 = .ok (.getfield 39, 3) := by decide +kernel
theorem dX3_arraySize_29 : decode cX3_arraySize 29 = .ok (.istore_n 2, 1) := by decide +kernel
theorem dX3_arraySize_30 : decode cX3_arraySize 30 = .ok (.aload_n 0, 1) := by decide +kernel
theorem dX3_arraySize_31 : decode cX3_arraySize 31 = .ok (.getfield 19, 3) := by decide +kernel
theorem dX3_arraySize_34 : decode cX3_arraySize 34 = .ok (.invokevirtual 44, 3) := by decide +kernel
theorem dX3_arraySize_37 : decode cX3_arraySize 37 = .ok (.aload_n 0, 1) := by decide +kernel
theorem dX3_arraySize_38 : decode cX3_arraySize 38 = .ok (.invokevirtual 49, 3) := by decide +kernel
theorem dX3_arraySize_41 : decode cX3_arraySize 41 = .ok (.aload_n 0, 1) := by decide +kernel
theorem dX3_arraySize_42 : decode cX3_arraySize 42 = .ok (.getfield 19, 3) := by decide +kernel
theorem dX3_arraySize_45 : decode cX3_arraySize 45 = .ok (.invokevirtual 52, 3) := by decide +kernel
theorem dX3_arraySize_48 : decode cX3_arraySize 48 = .ok (.ifCond .eq 22, 3) := by decide +kernel
theorem dX3_arraySize_51 : decode cX3_arraySize 51 = .ok (.aload_n 0, 1) := by decide +kernel
theorem dX3_arraySize_52 : decode cX3_arraySize 52 = .ok (.getfield 19, 3) := by decide +kernel
theorem dX3_arraySize_55 : decode cX3_arraySize 55 = .ok (.aload_n 0, 1) := by decide +kernel
theorem dX3_arraySize_56 : decode cX3_arraySize 56 = .ok (.getfield 31, 3) := by decide +kernel
theorem dX3_arraySize_59 : decode cX3_arraySize 59 = .ok (.iload_n 2, 1) := by decide +kernel
theorem dX3_arraySize_60 : decode cX3_arraySize 60 = .ok (.invokevirtual 56, 3) := by decide +kernel
theorem dX3_arraySize_63 : decode cX3_arraySize 63 = .ok (.iload_n 1, 1) := by decide +kernel
theorem dX3_arraySize_64 : decode cX3_arraySize 64 = .ok (.invokevirtual 75, 3) := by decide +kernel
theorem dX3_arraySize_67 : decode cX3_arraySize 67 = .ok (.goto 4, 3) := by decide +kernel
theorem dX3_arraySize_70 : decode cX3_arraySize 70 = .ok (.iconst 0, 1) := by decide +kernel
theorem dX3_arraySize_71 : decode cX3_arraySize 71 = .ok (.istore_n 3, 1) := by decide +kernel
theorem dX3_arraySize_72 : decode cX3_arraySize 72 = .ok (.aload_n 0, 1) := by decide +kernel
theorem dX3_arraySize_73 : decode cX3_arraySize 73 = .ok (.getfield 23, 3) := by decide +kernel
theorem dX3_arraySize_76 : decode cX3_arraySize 76 = .ok (.iload_n 2, 1) := by decide +kernel
theorem dX3_arraySize_77 : decode cX3_arraySize 77 = .ok (.invokevirtual 62, 3) := by decide +kernel
theorem dX3_arraySize_80 : decode cX3_arraySize 80 = .ok (.aload_n 0, 1) := by decide +kernel
theorem dX3_arraySize_81 : decode cX3_arraySize 81 = .ok (.getfield 15, 3) := by decide +kernel
theorem dX3_arraySize_84 : decode cX3_arraySize 84 = .ok (.bipush 22, 2) := by decide +kernel
theorem dX3_arraySize_86 : decode cX3_arraySize 86 = .ok (.invokevirtual 79, 3) := by decide +kernel
theorem dX3_arraySize_89 : decode cX3_arraySize 89 = .ok (.iload_n 3, 1) := by decide +kernel
theorem dX3_arraySize_90 : decode cX3_arraySize 90 = .ok (.ireturn, 1) := by decide +kernel
theorem dX3_expression_0 : decode cX3_expression 0 = .ok (.aload_n 0, 1) := by decide +kernel
theorem dX3_expression_1 : decode cX3_expression 1 = .ok (.invokevirtual 82, 3) := by decide +kernel
theorem dX3_expression_4 : decode cX3_expression 4 = .ok (.aload_n 0, 1) := by decide +kernel
theorem dX3_expression_5 : decode cX3_expression 5 = .ok (.getfield 15, 3) := by decide +kernel
theorem dX3_expression_8 : decode cX3_expression 8 = .ok (.getfield 85, 3) := by decide +kernel
theorem dX3_expression_11 : decode cX3_expression 11 = .ok (.bipush 27, 2) := by decide +kernel
theorem dX3_expression_13 : decode cX3_expression 13 = .ok (.if_icmp .ne 15, 3) := by decide +kernel
theorem dX3_expression_16 : decode cX3_expression 16 = .ok (.aload_n 0, 1) := by decide +kernel
theorem dX3_expression_17 : decode cX3_expression 17 = .ok (.getfield 15, 3) := by decide +kernel
theorem dX3_expression_20 : decode cX3_expression 20 = .ok (.bipush 27, 2) := by decide +kernel
theorem dX3_expression_22 : decode cX3_expression 22 = .ok (.invokevirtual 66, 3) := by decide +kernel
theorem dX3_expression_25 : decode cX3_expression 25 = .ok (.ifCond .ne 4, 3) := by decide +kernel
theorem dX3_expression_28 : decode cX3_expression 28 = .ok (.return_, 1) := by decide +kernel
theorem dX3_expression_29 : decode cX3_expression 29 = .ok (.aload_n 0, 1) := by decide +kernel
theorem dX3_expression_30 : decode cX3_expression 30 = .ok (.getfield 23, 3) := by decide +kernel
theorem dX3_expression_33 : decode cX3_expression 33 = .ok (.bipush 86, 2) := by decide +kernel
theorem dX3_expression_35 : decode cX3_expression 35 = .ok (.iconst (-1), 1) := by decide +kernel
theorem dX3_expression_36 : decode cX3_expression 36 = .ok (.invokevirtual 88, 3) := by decide +kernel
theorem dX3_expression_39 : decode cX3_expression 39 = .ok (.istore_n 1, 1) := by decide +kernel
theorem dX3_expression_40 : decode cX3_expression 40 = .ok (.aload_n 0, 1) := by decide +kernel
theorem dX3_expression_41 : decode cX3_expression 41 = .ok (.invokevirtual 49, 3) := by decide +kernel
theorem dX3_expression_44 : decode cX3_expression 44 = .ok (.aload_n 0, 1) := by decide +kernel
theorem dX3_expression_45 : decode cX3_expression 45 = .ok (.getfield 15, 3) := by decide +kernel
theorem dX3_expression_48 : decode cX3_expression 48 = .ok (.bipush 28, 2) := by decide +kernel
theorem dX3_expression_50 : decode cX3_expression 50 = .ok (.invokevirtual 91, 3) := by decide +kernel
theorem dX3_expression_53 : decode cX3_expression 53 = .ok (.aload_n 0, 1) := by decide +kernel
theorem dX3_expression_54 : decode cX3_expression 54 = .ok (.getfield 23, 3) := by decide +kernel
theorem dX3_expression_57 : decode cX3_expression 57 = .ok (.bipush 84, 2) := by decide +kernel
theorem dX3_expression_59 : decode cX3_expression 59 = .ok (.iconst (-1), 1) := by decide +kernel
theorem dX3_expression_60 : decode cX3_expression 60 = .ok (.invokevirtual 88, 3) := by decide +kernel
theorem dX3_expression_63 : decode cX3_expression 63 = .ok (.istore_n 2, 1) := by decide +kernel
theorem dX3_expression_64 : decode cX3_expression 64 = .ok (.aload_n 0, 1) := by decide +kernel
theorem dX3_expression_65 : decode cX3_expression 65 = .ok (.getfield 23, 3) := by decide +kernel
theorem dX3_expression_68 : decode cX3_expression 68 = .ok (.iload_n 1, 1) := by decide +kernel
theorem dX3_expression_69 : decode cX3_expression 69 = .ok (.aload_n 0, 1) := by decide +kernel
theorem dX3_expression_70 : decode cX3_expression 70 = .ok (.getfield 23, 3) := by decide +kernel
theorem dX3_expression_73 : decode cX3_expression 73 = .ok (.getfield 39, 3) := by decide +kernel
theorem dX3_expression_76 : decode cX3_expression 76 = .ok (.invokevirtual 94, 3) := by decide +kernel
theorem dX3_expression_79 : decode cX3_expression 79 = .ok (.aload_n 0, 1) := by decide +kernel
theorem dX3_expression_80 : decode cX3_expression 80 = .ok (.invokevirtual 49, 3) := by decide +kernel
theorem dX3_expression_83 : decode cX3_expression 83 = .ok (.aload_n 0, 1) := by decide +kernel
theorem dX3_expression_84 : decode cX3_expression 84 = .ok (.getfield 23, 3) := by decide +kernel
theorem dX3_expression_87 : decode cX3_expression 87 = .ok (.iload_n 2, 1) := by decide +kernel
theorem dX3_expression_88 : decode cX3_expression 88 = .ok (.aload_n 0, 1) := by decide +kernel
theorem dX3_expression_89 : decode cX3_expression 89 = .ok (.getfield 23, 3) := by decide +kernel
theorem dX3_expression_92 : decode cX3_expression 92 = .ok (.getfield 39, 3) := by decide +kernel
theorem dX3_expression_95 : decode cX3_expression 95 = .ok (.invokevirtual 94, 3) := by decide +kernel
theorem dX3_expression_98 : decode cX3_expression 98 = .ok (.aload_n 0, 1) := by decide +kernel
theorem dX3_expression_99 : decode cX3_expression 99 = .ok (.getfield 15, 3) := by decide +kernel
theorem dX3_expression_102 : decode cX3_expression 102 = .ok (.invokevirtual 98, 3) := by decide +kernel
theorem dX3_expression_105 : decode cX3_expression 105 = .ok (.return_, 1) := by decide +kernel
theorem dX3_joinedOperands_0 : decode cX3_joinedOperands 0 = .ok (.aload_n 0, 1) := by decide +kernel
theorem dX3_joinedOperands_1 : decode cX3_joinedOperands 1 = .ok (.getfield 35, 3) := by decide +kernel
theorem dX3_joinedOperands_4 : decode cX3_joinedOperands 4 = .ok (.istore_n 1, 1) := by decide +kernel
theorem dX3_joinedOperands_5 : decode cX3_joinedOperands 5 = .ok (.iconst 1, 1) := by decide +kernel
theorem dX3_joinedOperands_6 : decode cX3_joinedOperands 6 = .ok (.istore_n 2, 1) := by decide +kernel
theorem dX3_joinedOperands_7 : decode cX3_joinedOperands 7 = .ok (.iconst 0, 1) := by decide +kernel
theorem dX3_joinedOperands_8 : decode cX3_joinedOperands 8 = .ok (.istore_n 3, 1) := by decide +kernel
theorem dX3_joinedOperands_9 : decode cX3_joinedOperands 9 = .ok (.iload_n 3, 1) := by decide +kernel
theorem dX3_joinedOperands_10 : decode cX3_joinedOperands 10 = .ok (.sipush 4001, 3) := by decide +kernel
theorem dX3_joinedOperands_13 : decode cX3_joinedOperands 13 = .ok (.if_icmp .ge 149, 3) := by decide +kernel
theorem dX3_joinedOperands_16 : decode cX3_joinedOperands 16 = .ok (.iload_n 2, 1) := by decide +kernel
theorem dX3_joinedOperands_17 : decode cX3_joinedOperands 17 = .ok (.ifCond .eq 145, 3) := by decide +kernel
theorem dX3_joinedOperands_20 : decode cX3_joinedOperands 20 = .ok (.iconst 0, 1) := by decide +kernel
theorem dX3_joinedOperands_21 : decode cX3_joinedOperands 21 = .ok (.istore 4, 2) := by decide +kernel
theorem dX3_joinedOperands_23 : decode cX3_joinedOperands 23 = .ok (.iload 4, 2) := by decide +kernel
theorem dX3_joinedOperands_25 : decode cX3_joinedOperands 25 = .ok (.sipush 4001, 3) := by decide +kernel
theorem dX3_joinedOperands_28 : decode cX3_joinedOperands 28 = .ok (.if_icmp .ge 57, 3) := by decide +kernel
theorem dX3_joinedOperands_31 : decode cX3_joinedOperands 31 = .ok (.aload_n 0, 1) := by decide +kernel
theorem dX3_joinedOperands_32 : decode cX3_joinedOperands 32 = .ok (.getfield 15, 3) := by decide +kernel
theorem dX3_joinedOperands_35 : decode cX3_joinedOperands 35 = .ok (.getfield 85, 3) := by decide +kernel
theorem dX3_joinedOperands_38 : decode cX3_joinedOperands 38 = .ok (.invokestatic 101, 3) := by decide +kernel
theorem dX3_joinedOperands_41 : decode cX3_joinedOperands 41 = .ok (.ifCond .eq 44, 3) := by decide +kernel
theorem dX3_joinedOperands_44 : decode cX3_joinedOperands 44 = .ok (.aload_n 0, 1) := by decide +kernel
theorem dX3_joinedOperands_45 : decode cX3_joinedOperands 45 = .ok (.aload_n 0, 1) := by decide +kernel
theorem dX3_joinedOperands_46 : decode cX3_joinedOperands 46 = .ok (.getfield 15, 3) := by decide +kernel
theorem dX3_joinedOperands_49 : decode cX3_joinedOperands 49 = .ok (.getfield 85, 3) := by decide +kernel
theorem dX3_joinedOperands_52 : decode cX3_joinedOperands 52 = .ok (.bipush 58, 2) := by decide +kernel
theorem dX3_joinedOperands_54 : decode cX3_joinedOperands 54 = .ok (.if_icmp .ne 8, 3) := by decide +kernel
theorem dX3_joinedOperands_57 : decode cX3_joinedOperands 57 = .ok (.bipush 64, 2) := by decide +kernel
theorem dX3_joinedOperands_59 : decode cX3_joinedOperands 59 = .ok (.goto 10, 3) := by decide +kernel
theorem dX3_joinedOperands_62 : decode cX3_joinedOperands 62 = .ok (.aload_n 0, 1) := by decide +kernel
theorem dX3_joinedOperands_63 : decode cX3_joinedOperands 63 = .ok (.getfield 15, 3) := by decide +kernel
theorem dX3_joinedOperands_66 : decode cX3_joinedOperands 66 = .ok (.getfield 85, 3) := by decide +kernel
theorem dX3_joinedOperands_69 : decode cX3_joinedOperands 69 = .ok (.invokevirtual 104, 3) := by decide +kernel
theorem dX3_joinedOperands_72 : decode cX3_joinedOperands 72 = .ok (.aload_n 0, 1) := by decide +kernel
theorem dX3_joinedOperands_73 : decode cX3_joinedOperands 73 = .ok (.getfield 15, 3) := by decide +kernel
theorem dX3_joinedOperands_76 : decode cX3_joinedOperands 76 = .ok (.invokevirtual 107, 3) := by decide +kernel
theorem dX3_joinedOperands_79 : decode cX3_joinedOperands 79 = .ok (.iinc 4 1, 3) := by decide +kernel
theorem dX3_joinedOperands_82 : decode cX3_joinedOperands 82 = .ok (.goto (-59), 3) := by decide +kernel
theorem dX3_joinedOperands_85 : decode cX3_joinedOperands 85 = .ok (.aload_n 0, 1) := by decide +kernel
theorem dX3_joinedOperands_86 : decode cX3_joinedOperands 86 = .ok (.invokevirtual 110, 3) := by decide +kernel
theorem dX3_joinedOperands_89 : decode cX3_joinedOperands 89 = .ok (.aload_n 0, 1) := by decide +kernel
theorem dX3_joinedOperands_90 : decode cX3_joinedOperands 90 = .ok (.getfield 15, 3) := by decide +kernel
theorem dX3_joinedOperands_93 : decode cX3_joinedOperands 93 = .ok (.getfield 85, 3) := by decide +kernel
theorem dX3_joinedOperands_96 : decode cX3_joinedOperands 96 = .ok (.bipush 43, 2) := by decide +kernel
theorem dX3_joinedOperands_98 : decode cX3_joinedOperands 98 = .ok (.if_icmp .lt 19, 3) := by decide +kernel
theorem dX3_joinedOperands_101 : decode cX3_joinedOperands 101 = .ok (.aload_n 0, 1) := by decide +kernel
theorem dX3_joinedOperands_102 : decode cX3_joinedOperands 102 = .ok (.getfield 15, 3) := by decide +kernel
theorem dX3_joinedOperands_105 : decode cX3_joinedOperands 105 = .ok (.getfield 85, 3) := by decide +kernel
theorem dX3_joinedOperands_108 : decode cX3_joinedOperands 108 = .ok (.bipush 61, 2) := by decide +kernel
theorem dX3_joinedOperands_110 : decode cX3_joinedOperands 110 = .ok (.if_icmp .gt 7, 3) := by decide +kernel
theorem dX3_joinedOperands_113 : decode cX3_joinedOperands 113 = .ok (.iconst 1, 1) := by decide +kernel
theorem dX3_joinedOperands_114 : decode cX3_joinedOperands 114 = .ok (.goto 4, 3) := by decide +kernel
theorem dX3_joinedOperands_117 : decode cX3_joinedOperands 117 = .ok (.iconst 0, 1) := by decide +kernel
theorem dX3_joinedOperands_118 : decode cX3_joinedOperands 118 = .ok (.istore_n 2, 1) := by decide +kernel
theorem dX3_joinedOperands_119 : decode cX3_joinedOperands 119 = .ok (.iload_n 2, 1) := by decide +kernel
theorem dX3_joinedOperands_120 : decode cX3_joinedOperands 120 = .ok (.ifCond .eq 36, 3) := by decide +kernel
theorem dX3_joinedOperands_123 : decode cX3_joinedOperands 123 = .ok (.aload_n 0, 1) := by decide +kernel
theorem dX3_joinedOperands_124 : decode cX3_joinedOperands 124 = .ok (.iload_n 1, 1) := by decide +kernel
theorem dX3_joinedOperands_125 : decode cX3_joinedOperands 125 = .ok (.aload_n 0, 1) := by decide +kernel
theorem dX3_joinedOperands_126 : decode cX3_joinedOperands 126 = .ok (.getfield 15, 3) := by decide +kernel
theorem dX3_joinedOperands_129 : decode cX3_joinedOperands 129 = .ok (.getfield 85, 3) := by decide +kernel
theorem dX3_joinedOperands_132 : decode cX3_joinedOperands 132 = .ok (.invokestatic 113, 3) := by decide +kernel
theorem dX3_joinedOperands_135 : decode cX3_joinedOperands 135 = .ok (.invokevirtual 116, 3) := by decide +kernel
theorem dX3_joinedOperands_138 : decode cX3_joinedOperands 138 = .ok (.aload_n 0, 1) := by decide +kernel
theorem dX3_joinedOperands_139 : decode cX3_joinedOperands 139 = .ok (.aload_n 0, 1) := by decide +kernel
theorem dX3_joinedOperands_140 : decode cX3_joinedOperands 140 = .ok (.getfield 15, 3) := by decide +kernel
theorem dX3_joinedOperands_143 : decode cX3_joinedOperands 143 = .ok (.getfield 85, 3) := by decide +kernel
theorem dX3_joinedOperands_146 : decode cX3_joinedOperands 146 = .ok (.invokevirtual 104, 3) := by decide +kernel
theorem dX3_joinedOperands_149 : decode cX3_joinedOperands 149 = .ok (.aload_n 0, 1) := by decide +kernel
theorem dX3_joinedOperands_150 : decode cX3_joinedOperands 150 = .ok (.getfield 15, 3) := by decide +kernel
theorem dX3_joinedOperands_153 : decode cX3_joinedOperands 153 = .ok (.invokevirtual 107, 3) := by decide +kernel
theorem dX3_joinedOperands_156 : decode cX3_joinedOperands 156 = .ok (.iinc 3 1, 3) := by decide +kernel
theorem dX3_joinedOperands_159 : decode cX3_joinedOperands 159 = .ok (.goto (-150), 3) := by decide +kernel
theorem dX3_joinedOperands_162 : decode cX3_joinedOperands 162 = .ok (.aload_n 0, 1) := by decide +kernel
theorem dX3_joinedOperands_163 : decode cX3_joinedOperands 163 = .ok (.iload_n 1, 1) := by decide +kernel
theorem dX3_joinedOperands_164 : decode cX3_joinedOperands 164 = .ok (.iconst 0, 1) := by decide +kernel
theorem dX3_joinedOperands_165 : decode cX3_joinedOperands 165 = .ok (.invokevirtual 116, 3) := by decide +kernel
theorem dX3_joinedOperands_168 : decode cX3_joinedOperands 168 = .ok (.return_, 1) := by decide +kernel
theorem dX3_isAhead_0 : decode cX3_isAhead 0 = .ok (.iload_n 0, 1) := by decide +kernel
theorem dX3_isAhead_1 : decode cX3_isAhead 1 = .ok (.bipush 58, 2) := by decide +kernel
theorem dX3_isAhead_3 : decode cX3_isAhead 3 = .ok (.if_icmp .eq 15, 3) := by decide +kernel
theorem dX3_isAhead_6 : decode cX3_isAhead 6 = .ok (.iload_n 0, 1) := by decide +kernel
theorem dX3_isAhead_7 : decode cX3_isAhead 7 = .ok (.bipush 62, 2) := by decide +kernel
theorem dX3_isAhead_9 : decode cX3_isAhead 9 = .ok (.if_icmp .eq 9, 3) := by decide +kernel
theorem dX3_isAhead_12 : decode cX3_isAhead 12 = .ok (.iload_n 0, 1) := by decide +kernel
theorem dX3_isAhead_13 : decode cX3_isAhead 13 = .ok (.bipush 63, 2) := by decide +kernel
theorem dX3_isAhead_15 : decode cX3_isAhead 15 = .ok (.if_icmp .ne 7, 3) := by decide +kernel
theorem dX3_isAhead_18 : decode cX3_isAhead 18 = .ok (.iconst 1, 1) := by decide +kernel
theorem dX3_isAhead_19 : decode cX3_isAhead 19 = .ok (.goto 4, 3) := by decide +kernel
theorem dX3_isAhead_22 : decode cX3_isAhead 22 = .ok (.iconst 0, 1) := by decide +kernel
theorem dX3_isAhead_23 : decode cX3_isAhead 23 = .ok (.ireturn, 1) := by decide +kernel
theorem dX3_strength_0 : decode cX3_strength 0 = .ok (.iload_n 0, 1) := by decide +kernel
theorem dX3_strength_1 : decode cX3_strength 1 = .ok (.bipush 43, 2) := by decide +kernel
theorem dX3_strength_3 : decode cX3_strength 3 = .ok (.isub, 1) := by decide +kernel
theorem dX3_strength_4 : decode cX3_strength 4 = .ok (.istore_n 1, 1) := by decide +kernel
theorem dX3_strength_5 : decode cX3_strength 5 = .ok (.iload_n 1, 1) := by decide +kernel
theorem dX3_strength_6 : decode cX3_strength 6 = .ok (.ifCond .lt 11, 3) := by decide +kernel
theorem dX3_strength_9 : decode cX3_strength 9 = .ok (.iload_n 1, 1) := by decide +kernel
theorem dX3_strength_10 : decode cX3_strength 10 = .ok (.getstatic 119, 3) := by decide +kernel
theorem dX3_strength_13 : decode cX3_strength 13 = .ok (.arraylength, 1) := by decide +kernel
theorem dX3_strength_14 : decode cX3_strength 14 = .ok (.if_icmp .lt 8, 3) := by decide +kernel
theorem dX3_strength_17 : decode cX3_strength 17 = .ok (.bipush 11, 2) := by decide +kernel
theorem dX3_strength_19 : decode cX3_strength 19 = .ok (.goto 8, 3) := by decide +kernel
theorem dX3_strength_22 : decode cX3_strength 22 = .ok (.getstatic 119, 3) := by decide +kernel
theorem dX3_strength_25 : decode cX3_strength 25 = .ok (.iload_n 1, 1) := by decide +kernel
theorem dX3_strength_26 : decode cX3_strength 26 = .ok (.iaload, 1) := by decide +kernel
theorem dX3_strength_27 : decode cX3_strength 27 = .ok (.ireturn, 1) := by decide +kernel
theorem dX3_waits_0 : decode cX3_waits 0 = .ok (.aload_n 0, 1) := by decide +kernel
theorem dX3_waits_1 : decode cX3_waits 1 = .ok (.getfield 35, 3) := by decide +kernel
theorem dX3_waits_4 : decode cX3_waits 4 = .ok (.sipush 4000, 3) := by decide +kernel
theorem dX3_waits_7 : decode cX3_waits 7 = .ok (.if_icmp .lt 4, 3) := by decide +kernel
theorem dX3_waits_10 : decode cX3_waits 10 = .ok (.return_, 1) := by decide +kernel
theorem dX3_waits_11 : decode cX3_waits 11 = .ok (.iload_n 1, 1) := by decide +kernel
theorem dX3_waits_12 : decode cX3_waits 12 = .ok (.bipush 43, 2) := by decide +kernel
theorem dX3_waits_14 : decode cX3_waits 14 = .ok (.if_icmp .eq 9, 3) := by decide +kernel
theorem dX3_waits_17 : decode cX3_waits 17 = .ok (.iload_n 1, 1) := by decide +kernel
theorem dX3_waits_18 : decode cX3_waits 18 = .ok (.bipush 44, 2) := by decide +kernel
theorem dX3_waits_20 : decode cX3_waits 20 = .ok (.if_icmp .ne 43, 3) := by decide +kernel
theorem dX3_waits_23 : decode cX3_waits 23 = .ok (.aload_n 0, 1) := by decide +kernel
theorem dX3_waits_24 : decode cX3_waits 24 = .ok (.getfield 9, 3) := by decide +kernel
theorem dX3_waits_27 : decode cX3_waits 27 = .ok (.aload_n 0, 1) := by decide +kernel
theorem dX3_waits_28 : decode cX3_waits 28 = .ok (.getfield 35, 3) := by decide +kernel
theorem dX3_waits_31 : decode cX3_waits 31 = .ok (.aload_n 0, 1) := by decide +kernel
theorem dX3_waits_32 : decode cX3_waits 32 = .ok (.getfield 23, 3) := by decide +kernel
theorem dX3_waits_35 : decode cX3_waits 35 = .ok (.iload_n 1, 1) := by decide +kernel
theorem dX3_waits_36 : decode cX3_waits 36 = .ok (.bipush 43, 2) := by decide +kernel
theorem dX3_waits_38 : decode cX3_waits 38 = .ok (.if_icmp .ne 8, 3) := by decide +kernel
theorem dX3_waits_41 : decode cX3_waits 41 = .ok (.bipush 87, 2) := by decide +kernel
theorem dX3_waits_43 : decode cX3_waits 43 = .ok (.goto 5, 3) := by decide +kernel
theorem dX3_waits_46 : decode cX3_waits 46 = .ok (.bipush 88, 2) := by decide +kernel
theorem dX3_waits_48 : decode cX3_waits 48 = .ok (.iconst (-1), 1) := by decide +kernel
theorem dX3_waits_49 : decode cX3_waits 49 = .ok (.invokevirtual 88, 3) := by decide +kernel
theorem dX3_waits_52 : decode cX3_waits 52 = .ok (.iastore, 1) := by decide +kernel
theorem dX3_waits_53 : decode cX3_waits 53 = .ok (.aload_n 0, 1) := by decide +kernel
theorem dX3_waits_54 : decode cX3_waits 54 = .ok (.dup, 1) := by decide +kernel
theorem dX3_waits_55 : decode cX3_waits 55 = .ok (.getfield 35, 3) := by decide +kernel
theorem dX3_waits_58 : decode cX3_waits 58 = .ok (.iconst 1, 1) := by decide +kernel
theorem dX3_waits_59 : decode cX3_waits 59 = .ok (.iadd, 1) := by decide +kernel
theorem dX3_waits_60 : decode cX3_waits 60 = .ok (.putfield 35, 3) := by decide +kernel
theorem dX3_waits_63 : decode cX3_waits 63 = .ok (.aload_n 0, 1) := by decide +kernel
theorem dX3_waits_64 : decode cX3_waits 64 = .ok (.getfield 9, 3) := by decide +kernel
theorem dX3_waits_67 : decode cX3_waits 67 = .ok (.aload_n 0, 1) := by decide +kernel
theorem dX3_waits_68 : decode cX3_waits 68 = .ok (.getfield 35, 3) := by decide +kernel
theorem dX3_waits_71 : decode cX3_waits 71 = .ok (.iload_n 1, 1) := by decide +kernel
theorem dX3_waits_72 : decode cX3_waits 72 = .ok (.iastore, 1) := by decide +kernel
theorem dX3_waits_73 : decode cX3_waits 73 = .ok (.aload_n 0, 1) := by decide +kernel
theorem dX3_waits_74 : decode cX3_waits 74 = .ok (.dup, 1) := by decide +kernel
theorem dX3_waits_75 : decode cX3_waits 75 = .ok (.getfield 35, 3) := by decide +kernel
theorem dX3_waits_78 : decode cX3_waits 78 = .ok (.iconst 1, 1) := by decide +kernel
theorem dX3_waits_79 : decode cX3_waits 79 = .ok (.iadd, 1) := by decide +kernel
theorem dX3_waits_80 : decode cX3_waits 80 = .ok (.putfield 35, 3) := by decide +kernel
theorem dX3_waits_83 : decode cX3_waits 83 = .ok (.return_, 1) := by decide +kernel
theorem dX3_settle_0 : decode cX3_settle 0 = .ok (.iconst 0, 1) := by decide +kernel
theorem dX3_settle_1 : decode cX3_settle 1 = .ok (.istore_n 3, 1) := by decide +kernel
theorem dX3_settle_2 : decode cX3_settle 2 = .ok (.iload_n 3, 1) := by decide +kernel
theorem dX3_settle_3 : decode cX3_settle 3 = .ok (.sipush 4001, 3) := by decide +kernel
theorem dX3_settle_6 : decode cX3_settle 6 = .ok (.if_icmp .ge 132, 3) := by decide +kernel
theorem dX3_settle_9 : decode cX3_settle 9 = .ok (.aload_n 0, 1) := by decide +kernel
theorem dX3_settle_10 : decode cX3_settle 10 = .ok (.getfield 35, 3) := by decide +kernel
theorem dX3_settle_13 : decode cX3_settle 13 = .ok (.iload_n 1, 1) := by decide +kernel
theorem dX3_settle_14 : decode cX3_settle 14 = .ok (.if_icmp .le 124, 3) := by decide +kernel
theorem dX3_settle_17 : decode cX3_settle 17 = .ok (.aload_n 0, 1) := by decide +kernel
theorem dX3_settle_18 : decode cX3_settle 18 = .ok (.getfield 35, 3) := by decide +kernel
theorem dX3_settle_21 : decode cX3_settle 21 = .ok (.ifCond .le 117, 3) := by decide +kernel
theorem dX3_settle_24 : decode cX3_settle 24 = .ok (.aload_n 0, 1) := by decide +kernel
theorem dX3_settle_25 : decode cX3_settle 25 = .ok (.getfield 9, 3) := by decide +kernel
theorem dX3_settle_28 : decode cX3_settle 28 = .ok (.aload_n 0, 1) := by decide +kernel
theorem dX3_settle_29 : decode cX3_settle 29 = .ok (.getfield 35, 3) := by decide +kernel
theorem dX3_settle_32 : decode cX3_settle 32 = .ok (.iconst 1, 1) := by decide +kernel
theorem dX3_settle_33 : decode cX3_settle 33 = .ok (.isub, 1) := by decide +kernel
theorem dX3_settle_34 : decode cX3_settle 34 = .ok (.iaload, 1) := by decide +kernel
theorem dX3_settle_35 : decode cX3_settle 35 = .ok (.istore 4, 2) := by decide +kernel
theorem dX3_settle_37 : decode cX3_settle 37 = .ok (.iload 4, 2) := by decide +kernel
theorem dX3_settle_39 : decode cX3_settle 39 = .ok (.invokestatic 113, 3) := by decide +kernel
theorem dX3_settle_42 : decode cX3_settle 42 = .ok (.iload_n 2, 1) := by decide +kernel
theorem dX3_settle_43 : decode cX3_settle 43 = .ok (.if_icmp .ge 4, 3) := by decide +kernel
theorem dX3_settle_46 : decode cX3_settle 46 = .ok (.return_, 1) := by decide +kernel
theorem dX3_settle_47 : decode cX3_settle 47 = .ok (.aload_n 0, 1) := by decide +kernel
theorem dX3_settle_48 : decode cX3_settle 48 = .ok (.dup, 1) := by decide +kernel
theorem dX3_settle_49 : decode cX3_settle 49 = .ok (.getfield 35, 3) := by decide +kernel
theorem dX3_settle_52 : decode cX3_settle 52 = .ok (.iconst 1, 1) := by decide +kernel
theorem dX3_settle_53 : decode cX3_settle 53 = .ok (.isub, 1) := by decide +kernel
theorem dX3_settle_54 : decode cX3_settle 54 = .ok (.putfield 35, 3) := by decide +kernel
theorem dX3_settle_57 : decode cX3_settle 57 = .ok (.iload 4, 2) := by decide +kernel
theorem dX3_settle_59 : decode cX3_settle 59 = .ok (.bipush 43, 2) := by decide +kernel
theorem dX3_settle_61 : decode cX3_settle 61 = .ok (.if_icmp .eq 10, 3) := by decide +kernel
theorem dX3_settle_64 : decode cX3_settle 64 = .ok (.iload 4, 2) := by decide +kernel
theorem dX3_settle_66 : decode cX3_settle 66 = .ok (.bipush 44, 2) := by decide +kernel
theorem dX3_settle_68 : decode cX3_settle 68 = .ok (.if_icmp .ne 55, 3) := by decide +kernel
theorem dX3_settle_71 : decode cX3_settle 71 = .ok (.aload_n 0, 1) := by decide +kernel
theorem dX3_settle_72 : decode cX3_settle 72 = .ok (.getfield 35, 3) := by decide +kernel
theorem dX3_settle_75 : decode cX3_settle 75 = .ok (.ifCond .le 48, 3) := by decide +kernel
theorem dX3_settle_78 : decode cX3_settle 78 = .ok (.aload_n 0, 1) := by decide +kernel
theorem dX3_settle_79 : decode cX3_settle 79 = .ok (.dup, 1) := by decide +kernel
theorem dX3_settle_80 : decode cX3_settle 80 = .ok (.getfield 35, 3) := by decide +kernel
theorem dX3_settle_83 : decode cX3_settle 83 = .ok (.iconst 1, 1) := by decide +kernel
theorem dX3_settle_84 : decode cX3_settle 84 = .ok (.isub, 1) := by decide +kernel
theorem dX3_settle_85 : decode cX3_settle 85 = .ok (.putfield 35, 3) := by decide +kernel
theorem dX3_settle_88 : decode cX3_settle 88 = .ok (.aload_n 0, 1) := by decide +kernel
theorem dX3_settle_89 : decode cX3_settle 89 = .ok (.getfield 23, 3) := by decide +kernel
theorem dX3_settle_92 : decode cX3_settle 92 = .ok (.bipush 65, 2) := by decide +kernel
theorem dX3_settle_94 : decode cX3_settle 94 = .ok (.invokevirtual 122, 3) := by decide +kernel
theorem dX3_settle_97 : decode cX3_settle 97 = .ok (.aload_n 0, 1) := by decide +kernel
theorem dX3_settle_98 : decode cX3_settle 98 = .ok (.getfield 23, 3) := by decide +kernel
theorem dX3_settle_101 : decode cX3_settle 101 = .ok (.aload_n 0, 1) := by decide +kernel
theorem dX3_settle_102 : decode cX3_settle 102 = .ok (.getfield 9, 3) := by decide +kernel
theorem dX3_settle_105 : decode cX3_settle 105 = .ok (.aload_n 0, 1) := by decide +kernel
theorem dX3_settle_106 : decode cX3_settle 106 = .ok (.getfield 35, 3) := by decide +kernel
theorem dX3_settle_109 : decode cX3_settle 109 = .ok (.iaload, 1) := by decide +kernel
theorem dX3_settle_110 : decode cX3_settle 110 = .ok (.aload_n 0, 1) := by decide +kernel
theorem dX3_settle_111 : decode cX3_settle 111 = .ok (.getfield 23, 3) := by decide +kernel
theorem dX3_settle_114 : decode cX3_settle 114 = .ok (.getfield 39, 3) := by decide +kernel
theorem dX3_settle_117 : decode cX3_settle 117 = .ok (.invokevirtual 94, 3) := by decide +kernel
theorem dX3_settle_120 : decode cX3_settle 120 = .ok (.goto 12, 3) := by decide +kernel
theorem dX3_settle_123 : decode cX3_settle 123 = .ok (.aload_n 0, 1) := by decide +kernel
theorem dX3_settle_124 : decode cX3_settle 124 = .ok (.getfield 23, 3) := by decide +kernel
theorem dX3_settle_127 : decode cX3_settle 127 = .ok (.iload 4, 2) := by decide +kernel
theorem dX3_settle_129 : decode cX3_settle 129 = .ok (.invokevirtual 122, 3) := by decide +kernel
theorem dX3_settle_132 : decode cX3_settle 132 = .ok (.iinc 3 1, 3) := by decide +kernel
theorem dX3_settle_135 : decode cX3_settle 135 = .ok (.goto (-133), 3) := by decide +kernel
theorem dX3_settle_138 : decode cX3_settle 138 = .ok (.return_, 1) := by decide +kernel
theorem dX3_operand_0 : decode cX3_operand 0 = .ok (.aload_n 0, 1) := by decide +kernel
theorem dX3_operand_1 : decode cX3_operand 1 = .ok (.getfield 15, 3) := by decide +kernel
theorem dX3_operand_4 : decode cX3_operand 4 = .ok (.getfield 85, 3) := by decide +kernel
theorem dX3_operand_7 : decode cX3_operand 7 = .ok (.lookupswitch 168 #[(2, 67), (3, 41), (17, 74), (19, 140)], 41) := by decide +kernel
theorem dX3_operand_48 : decode cX3_operand 48 = .ok (.aload_n 0, 1) := by decide +kernel
theorem dX3_operand_49 : decode cX3_operand 49 = .ok (.getfield 23, 3) := by decide +kernel
theorem dX3_operand_52 : decode cX3_operand 52 = .ok (.bipush 66, 2) := by decide +kernel
theorem dX3_operand_54 : decode cX3_operand 54 = .ok (.aload_n 0, 1) := by decide +kernel
theorem dX3_operand_55 : decode cX3_operand 55 = .ok (.getfield 15, 3) := by decide +kernel
theorem dX3_operand_58 : decode cX3_operand 58 = .ok (.getfield 125, 3) := by decide +kernel
theorem dX3_operand_61 : decode cX3_operand 61 = .ok (.invokevirtual 128, 3) := by decide +kernel
theorem dX3_operand_64 : decode cX3_operand 64 = .ok (.aload_n 0, 1) := by decide +kernel
theorem dX3_operand_65 : decode cX3_operand 65 = .ok (.getfield 15, 3) := by decide +kernel
theorem dX3_operand_68 : decode cX3_operand 68 = .ok (.invokevirtual 107, 3) := by decide +kernel
theorem dX3_operand_71 : decode cX3_operand 71 = .ok (.goto 112, 3) := by decide +kernel
theorem dX3_operand_74 : decode cX3_operand 74 = .ok (.aload_n 0, 1) := by decide +kernel
theorem dX3_operand_75 : decode cX3_operand 75 = .ok (.invokevirtual 131, 3) := by decide +kernel
theorem dX3_operand_78 : decode cX3_operand 78 = .ok (.goto 105, 3) := by decide +kernel
theorem dX3_operand_81 : decode cX3_operand 81 = .ok (.aload_n 0, 1) := by decide +kernel
theorem dX3_operand_82 : decode cX3_operand 82 = .ok (.getfield 19, 3) := by decide +kernel
theorem dX3_operand_85 : decode cX3_operand 85 = .ok (.getfield 134, 3) := by decide +kernel
theorem dX3_operand_88 : decode cX3_operand 88 = .ok (.ifCond .eq 19, 3) := by decide +kernel
theorem dX3_operand_91 : decode cX3_operand 91 = .ok (.aload_n 0, 1) := by decide +kernel
theorem dX3_operand_92 : decode cX3_operand 92 = .ok (.getfield 19, 3) := by decide +kernel
theorem dX3_operand_95 : decode cX3_operand 95 = .ok (.bipush 7, 2) := by decide +kernel
theorem dX3_operand_97 : decode cX3_operand 97 = .ok (.aload_n 0, 1) := by decide +kernel
theorem dX3_operand_98 : decode cX3_operand 98 = .ok (.getfield 15, 3) := by decide +kernel
theorem dX3_operand_101 : decode cX3_operand 101 = .ok (.getfield 72, 3) := by decide +kernel
theorem dX3_operand_104 : decode cX3_operand 104 = .ok (.invokevirtual 138, 3) := by decide +kernel
theorem dX3_operand_107 : decode cX3_operand 107 = .ok (.aload_n 0, 1) := by decide +kernel
theorem dX3_operand_108 : decode cX3_operand 108 = .ok (.getfield 15, 3) := by decide +kernel
theorem dX3_operand_111 : decode cX3_operand 111 = .ok (.invokevirtual 107, 3) := by decide +kernel
theorem dX3_operand_114 : decode cX3_operand 114 = .ok (.aload_n 0, 1) := by decide +kernel
theorem dX3_operand_115 : decode cX3_operand 115 = .ok (.getfield 15, 3) := by decide +kernel
theorem dX3_operand_118 : decode cX3_operand 118 = .ok (.bipush 19, 2) := by decide +kernel
theorem dX3_operand_120 : decode cX3_operand 120 = .ok (.invokevirtual 66, 3) := by decide +kernel
theorem dX3_operand_123 : decode cX3_operand 123 = .ok (.ifCond .eq 12, 3) := by decide +kernel
theorem dX3_operand_126 : decode cX3_operand 126 = .ok (.aload_n 0, 1) := by decide +kernel
theorem dX3_operand_127 : decode cX3_operand 127 = .ok (.getfield 15, 3) := by decide +kernel
theorem dX3_operand_130 : decode cX3_operand 130 = .ok (.bipush 20, 2) := by decide +kernel
theorem dX3_operand_132 : decode cX3_operand 132 = .ok (.invokevirtual 79, 3) := by decide +kernel
theorem dX3_operand_135 : decode cX3_operand 135 = .ok (.aload_n 0, 1) := by decide +kernel
theorem dX3_operand_136 : decode cX3_operand 136 = .ok (.getfield 23, 3) := by decide +kernel
theorem dX3_operand_139 : decode cX3_operand 139 = .ok (.bipush 17, 2) := by decide +kernel
theorem dX3_operand_141 : decode cX3_operand 141 = .ok (.invokevirtual 122, 3) := by decide +kernel
theorem dX3_operand_144 : decode cX3_operand 144 = .ok (.goto 39, 3) := by decide +kernel
theorem dX3_operand_147 : decode cX3_operand 147 = .ok (.aload_n 0, 1) := by decide +kernel
theorem dX3_operand_148 : decode cX3_operand 148 = .ok (.getfield 15, 3) := by decide +kernel
theorem dX3_operand_151 : decode cX3_operand 151 = .ok (.bipush 19, 2) := by decide +kernel
theorem dX3_operand_153 : decode cX3_operand 153 = .ok (.invokevirtual 66, 3) := by decide +kernel
theorem dX3_operand_156 : decode cX3_operand 156 = .ok (.ifCond .eq 27, 3) := by decide +kernel
theorem dX3_operand_159 : decode cX3_operand 159 = .ok (.aload_n 0, 1) := by decide +kernel
theorem dX3_operand_160 : decode cX3_operand 160 = .ok (.invokevirtual 49, 3) := by decide +kernel
theorem dX3_operand_163 : decode cX3_operand 163 = .ok (.aload_n 0, 1) := by decide +kernel
theorem dX3_operand_164 : decode cX3_operand 164 = .ok (.getfield 15, 3) := by decide +kernel
theorem dX3_operand_167 : decode cX3_operand 167 = .ok (.bipush 20, 2) := by decide +kernel
theorem dX3_operand_169 : decode cX3_operand 169 = .ok (.invokevirtual 79, 3) := by decide +kernel
theorem dX3_operand_172 : decode cX3_operand 172 = .ok (.goto 11, 3) := by decide +kernel
theorem dX3_operand_175 : decode cX3_operand 175 = .ok (.aload_n 0, 1) := by decide +kernel
theorem dX3_operand_176 : decode cX3_operand 176 = .ok (.getfield 15, 3) := by decide +kernel
theorem dX3_operand_179 : decode cX3_operand 179 = .ok (.iconst 2, 1) := by decide +kernel
theorem dX3_operand_180 : decode cX3_operand 180 = .ok (.invokevirtual 141, 3) := by decide +kernel
theorem dX3_operand_183 : decode cX3_operand 183 = .ok (.return_, 1) := by decide +kernel
theorem dX3_named_0 : decode cX3_named 0 = .ok (.aload_n 0, 1) := by decide +kernel
theorem dX3_named_1 : decode cX3_named 1 = .ok (.getfield 15, 3) := by decide +kernel
theorem dX3_named_4 : decode cX3_named 4 = .ok (.getfield 72, 3) := by decide +kernel
theorem dX3_named_7 : decode cX3_named 7 = .ok (.istore_n 1, 1) := by decide +kernel
theorem dX3_named_8 : decode cX3_named 8 = .ok (.aload_n 0, 1) := by decide +kernel
theorem dX3_named_9 : decode cX3_named 9 = .ok (.getfield 19, 3) := by decide +kernel
theorem dX3_named_12 : decode cX3_named 12 = .ok (.aload_n 0, 1) := by decide +kernel
theorem dX3_named_13 : decode cX3_named 13 = .ok (.getfield 15, 3) := by decide +kernel
theorem dX3_named_16 : decode cX3_named 16 = .ok (.getfield 125, 3) := by decide +kernel
theorem dX3_named_19 : decode cX3_named 19 = .ok (.iload_n 1, 1) := by decide +kernel
theorem dX3_named_20 : decode cX3_named 20 = .ok (.invokevirtual 144, 3) := by decide +kernel
theorem dX3_named_23 : decode cX3_named 23 = .ok (.istore_n 2, 1) := by decide +kernel
theorem dX3_named_24 : decode cX3_named 24 = .ok (.aload_n 0, 1) := by decide +kernel
theorem dX3_named_25 : decode cX3_named 25 = .ok (.getfield 15, 3) := by decide +kernel
theorem dX3_named_28 : decode cX3_named 28 = .ok (.invokevirtual 107, 3) := by decide +kernel
theorem dX3_named_31 : decode cX3_named 31 = .ok (.aload_n 0, 1) := by decide +kernel
theorem dX3_named_32 : decode cX3_named 32 = .ok (.getfield 19, 3) := by decide +kernel
theorem dX3_named_35 : decode cX3_named 35 = .ok (.iload_n 2, 1) := by decide +kernel
theorem dX3_named_36 : decode cX3_named 36 = .ok (.iload_n 1, 1) := by decide +kernel
theorem dX3_named_37 : decode cX3_named 37 = .ok (.aload_n 0, 1) := by decide +kernel
theorem dX3_named_38 : decode cX3_named 38 = .ok (.getfield 15, 3) := by decide +kernel
theorem dX3_named_41 : decode cX3_named 41 = .ok (.getfield 85, 3) := by decide +kernel
theorem dX3_named_44 : decode cX3_named 44 = .ok (.invokevirtual 147, 3) := by decide +kernel
theorem dX3_named_47 : decode cX3_named 47 = .ok (.aload_n 0, 1) := by decide +kernel
theorem dX3_named_48 : decode cX3_named 48 = .ok (.getfield 15, 3) := by decide +kernel
theorem dX3_named_51 : decode cX3_named 51 = .ok (.getfield 85, 3) := by decide +kernel
theorem dX3_named_54 : decode cX3_named 54 = .ok (.bipush 19, 2) := by decide +kernel
theorem dX3_named_56 : decode cX3_named 56 = .ok (.if_icmp .ne 12, 3) := by decide +kernel
theorem dX3_named_59 : decode cX3_named 59 = .ok (.aload_n 0, 1) := by decide +kernel
theorem dX3_named_60 : decode cX3_named 60 = .ok (.iload_n 2, 1) := by decide +kernel
theorem dX3_named_61 : decode cX3_named 61 = .ok (.iload_n 1, 1) := by decide +kernel
theorem dX3_named_62 : decode cX3_named 62 = .ok (.invokevirtual 151, 3) := by decide +kernel
theorem dX3_named_65 : decode cX3_named 65 = .ok (.goto 33, 3) := by decide +kernel
theorem dX3_named_68 : decode cX3_named 68 = .ok (.aload_n 0, 1) := by decide +kernel
theorem dX3_named_69 : decode cX3_named 69 = .ok (.getfield 15, 3) := by decide +kernel
theorem dX3_named_72 : decode cX3_named 72 = .ok (.getfield 85, 3) := by decide +kernel
theorem dX3_named_75 : decode cX3_named 75 = .ok (.bipush 21, 2) := by decide +kernel
theorem dX3_named_77 : decode cX3_named 77 = .ok (.if_icmp .ne 16, 3) := by decide +kernel
theorem dX3_named_80 : decode cX3_named 80 = .ok (.aload_n 0, 1) := by decide +kernel
theorem dX3_named_81 : decode cX3_named 81 = .ok (.iload_n 2, 1) := by decide +kernel
theorem dX3_named_82 : decode cX3_named 82 = .ok (.invokevirtual 154, 3) := by decide +kernel
theorem dX3_named_85 : decode cX3_named 85 = .ok (.aload_n 0, 1) := by decide +kernel
theorem dX3_named_86 : decode cX3_named 86 = .ok (.iload_n 2, 1) := by decide +kernel
theorem dX3_named_87 : decode cX3_named 87 = .ok (.invokevirtual 157, 3) := by decide +kernel
theorem dX3_named_90 : decode cX3_named 90 = .ok (.goto 8, 3) := by decide +kernel
theorem dX3_named_93 : decode cX3_named 93 = .ok (.aload_n 0, 1) := by decide +kernel
theorem dX3_named_94 : decode cX3_named 94 = .ok (.iload_n 2, 1) := by decide +kernel
theorem dX3_named_95 : decode cX3_named 95 = .ok (.invokevirtual 160, 3) := by decide +kernel
theorem dX3_named_98 : decode cX3_named 98 = .ok (.return_, 1) := by decide +kernel
theorem dX3_index_0 : decode cX3_index 0 = .ok (.aload_n 0, 1) := by decide +kernel
theorem dX3_index_1 : decode cX3_index 1 = .ok (.getfield 15, 3) := by decide +kernel
theorem dX3_index_4 : decode cX3_index 4 = .ok (.getfield 72, 3) := by decide +kernel
theorem dX3_index_7 : decode cX3_index 7 = .ok (.istore_n 2, 1) := by decide +kernel
theorem dX3_index_8 : decode cX3_index 8 = .ok (.aload_n 0, 1) := by decide +kernel
theorem dX3_index_9 : decode cX3_index 9 = .ok (.getfield 15, 3) := by decide +kernel
theorem dX3_index_12 : decode cX3_index 12 = .ok (.bipush 21, 2) := by decide +kernel
theorem dX3_index_14 : decode cX3_index 14 = .ok (.invokevirtual 66, 3) := by decide +kernel
theorem dX3_index_17 : decode cX3_index 17 = .ok (.ifCond .ne 4, 3) := by decide +kernel
theorem dX3_index_20 : decode cX3_index 20 = .ok (.return_, 1) := by decide +kernel
theorem dX3_index_21 : decode cX3_index 21 = .ok (.aload_n 0, 1) := by decide +kernel
theorem dX3_index_22 : decode cX3_index 22 = .ok (.invokevirtual 49, 3) := by decide +kernel
theorem dX3_index_25 : decode cX3_index 25 = .ok (.aload_n 0, 1) := by decide +kernel
theorem dX3_index_26 : decode cX3_index 26 = .ok (.getfield 15, 3) := by decide +kernel
theorem dX3_index_29 : decode cX3_index 29 = .ok (.bipush 22, 2) := by decide +kernel
theorem dX3_index_31 : decode cX3_index 31 = .ok (.invokevirtual 79, 3) := by decide +kernel
theorem dX3_index_34 : decode cX3_index 34 = .ok (.aload_n 0, 1) := by decide +kernel
theorem dX3_index_35 : decode cX3_index 35 = .ok (.getfield 19, 3) := by decide +kernel
theorem dX3_index_38 : decode cX3_index 38 = .ok (.iload_n 1, 1) := by decide +kernel
theorem dX3_index_39 : decode cX3_index 39 = .ok (.invokevirtual 163, 3) := by decide +kernel
theorem dX3_index_42 : decode cX3_index 42 = .ok (.ifCond .ne 7, 3) := by decide +kernel
theorem dX3_index_45 : decode cX3_index 45 = .ok (.iconst 1, 1) := by decide +kernel
theorem dX3_index_46 : decode cX3_index 46 = .ok (.goto 4, 3) := by decide +kernel
theorem dX3_index_49 : decode cX3_index 49 = .ok (.iconst 0, 1) := by decide +kernel
theorem dX3_index_50 : decode cX3_index 50 = .ok (.istore_n 3, 1) := by decide +kernel
theorem dX3_index_51 : decode cX3_index 51 = .ok (.aload_n 0, 1) := by decide +kernel
theorem dX3_index_52 : decode cX3_index 52 = .ok (.getfield 23, 3) := by decide +kernel
theorem dX3_index_55 : decode cX3_index 55 = .ok (.iload_n 3, 1) := by decide +kernel
theorem dX3_index_56 : decode cX3_index 56 = .ok (.ifCond .eq 8, 3) := by decide +kernel
theorem dX3_index_59 : decode cX3_index 59 = .ok (.bipush 76, 2) := by decide +kernel
theorem dX3_index_61 : decode cX3_index 61 = .ok (.goto 21, 3) := by decide +kernel
theorem dX3_index_64 : decode cX3_index 64 = .ok (.aload_n 0, 1) := by decide +kernel
theorem dX3_index_65 : decode cX3_index 65 = .ok (.getfield 19, 3) := by decide +kernel
theorem dX3_index_68 : decode cX3_index 68 = .ok (.iload_n 1, 1) := by decide +kernel
theorem dX3_index_69 : decode cX3_index 69 = .ok (.invokevirtual 166, 3) := by decide +kernel
theorem dX3_index_72 : decode cX3_index 72 = .ok (.ifCond .eq 8, 3) := by decide +kernel
theorem dX3_index_75 : decode cX3_index 75 = .ok (.bipush 74, 2) := by decide +kernel
theorem dX3_index_77 : decode cX3_index 77 = .ok (.goto 5, 3) := by decide +kernel
theorem dX3_index_80 : decode cX3_index 80 = .ok (.bipush 75, 2) := by decide +kernel
theorem dX3_index_82 : decode cX3_index 82 = .ok (.aload_n 0, 1) := by decide +kernel
theorem dX3_index_83 : decode cX3_index 83 = .ok (.getfield 19, 3) := by decide +kernel
theorem dX3_index_86 : decode cX3_index 86 = .ok (.iload_n 1, 1) := by decide +kernel
theorem dX3_index_87 : decode cX3_index 87 = .ok (.invokevirtual 169, 3) := by decide +kernel
theorem dX3_index_90 : decode cX3_index 90 = .ok (.invokevirtual 128, 3) := by decide +kernel
theorem dX3_index_93 : decode cX3_index 93 = .ok (.aload_n 0, 1) := by decide +kernel
theorem dX3_index_94 : decode cX3_index 94 = .ok (.getfield 23, 3) := by decide +kernel
theorem dX3_index_97 : decode cX3_index 97 = .ok (.aload_n 0, 1) := by decide +kernel
theorem dX3_index_98 : decode cX3_index 98 = .ok (.getfield 19, 3) := by decide +kernel
theorem dX3_index_101 : decode cX3_index 101 = .ok (.iload_n 1, 1) := by decide +kernel
theorem dX3_index_102 : decode cX3_index 102 = .ok (.invokevirtual 163, 3) := by decide +kernel
theorem dX3_index_105 : decode cX3_index 105 = .ok (.invokevirtual 122, 3) := by decide +kernel
theorem dX3_index_108 : decode cX3_index 108 = .ok (.aload_n 0, 1) := by decide +kernel
theorem dX3_index_109 : decode cX3_index 109 = .ok (.getfield 23, 3) := by decide +kernel
theorem dX3_index_112 : decode cX3_index 112 = .ok (.aload_n 0, 1) := by decide +kernel
theorem dX3_index_113 : decode cX3_index 113 = .ok (.getfield 19, 3) := by decide +kernel
theorem dX3_index_116 : decode cX3_index 116 = .ok (.iload_n 1, 1) := by decide +kernel
theorem dX3_index_117 : decode cX3_index 117 = .ok (.invokevirtual 171, 3) := by decide +kernel
theorem dX3_index_120 : decode cX3_index 120 = .ok (.iconst 3, 1) := by decide +kernel
theorem dX3_index_121 : decode cX3_index 121 = .ok (.if_icmp .ne 7, 3) := by decide +kernel
theorem dX3_index_124 : decode cX3_index 124 = .ok (.iconst 2, 1) := by decide +kernel
theorem dX3_index_125 : decode cX3_index 125 = .ok (.goto 4, 3) := by decide +kernel
theorem dX3_index_128 : decode cX3_index 128 = .ok (.iconst 0, 1) := by decide +kernel
theorem dX3_index_129 : decode cX3_index 129 = .ok (.invokevirtual 122, 3) := by decide +kernel
theorem dX3_index_132 : decode cX3_index 132 = .ok (.aload_n 0, 1) := by decide +kernel
theorem dX3_index_133 : decode cX3_index 133 = .ok (.getfield 23, 3) := by decide +kernel
theorem dX3_index_136 : decode cX3_index 136 = .ok (.iload_n 2, 1) := by decide +kernel
theorem dX3_index_137 : decode cX3_index 137 = .ok (.invokevirtual 122, 3) := by decide +kernel
theorem dX3_index_140 : decode cX3_index 140 = .ok (.return_, 1) := by decide +kernel
theorem dX3_fetch_0 : decode cX3_fetch 0 = .ok (.aload_n 0, 1) := by decide +kernel
theorem dX3_fetch_1 : decode cX3_fetch 1 = .ok (.getfield 23, 3) := by decide +kernel
theorem dX3_fetch_4 : decode cX3_fetch 4 = .ok (.aload_n 0, 1) := by decide +kernel
theorem dX3_fetch_5 : decode cX3_fetch 5 = .ok (.getfield 19, 3) := by decide +kernel
theorem dX3_fetch_8 : decode cX3_fetch 8 = .ok (.iload_n 1, 1) := by decide +kernel
theorem dX3_fetch_9 : decode cX3_fetch 9 = .ok (.invokevirtual 171, 3) := by decide +kernel
theorem dX3_fetch_12 : decode cX3_fetch 12 = .ok (.iconst 3, 1) := by decide +kernel
theorem dX3_fetch_13 : decode cX3_fetch 13 = .ok (.if_icmp .ne 8, 3) := by decide +kernel
theorem dX3_fetch_16 : decode cX3_fetch 16 = .ok (.bipush 78, 2) := by decide +kernel
theorem dX3_fetch_18 : decode cX3_fetch 18 = .ok (.goto 5, 3) := by decide +kernel
theorem dX3_fetch_21 : decode cX3_fetch 21 = .ok (.bipush 77, 2) := by decide +kernel
theorem dX3_fetch_23 : decode cX3_fetch 23 = .ok (.invokevirtual 122, 3) := by decide +kernel
theorem dX3_fetch_26 : decode cX3_fetch 26 = .ok (.return_, 1) := by decide +kernel
theorem dX3_keep_0 : decode cX3_keep 0 = .ok (.aload_n 0, 1) := by decide +kernel
theorem dX3_keep_1 : decode cX3_keep 1 = .ok (.getfield 23, 3) := by decide +kernel
theorem dX3_keep_4 : decode cX3_keep 4 = .ok (.aload_n 0, 1) := by decide +kernel
theorem dX3_keep_5 : decode cX3_keep 5 = .ok (.getfield 19, 3) := by decide +kernel
theorem dX3_keep_8 : decode cX3_keep 8 = .ok (.iload_n 1, 1) := by decide +kernel
theorem dX3_keep_9 : decode cX3_keep 9 = .ok (.invokevirtual 171, 3) := by decide +kernel
theorem dX3_keep_12 : decode cX3_keep 12 = .ok (.iconst 3, 1) := by decide +kernel
theorem dX3_keep_13 : decode cX3_keep 13 = .ok (.if_icmp .ne 8, 3) := by decide +kernel
theorem dX3_keep_16 : decode cX3_keep 16 = .ok (.bipush 80, 2) := by decide +kernel
theorem dX3_keep_18 : decode cX3_keep 18 = .ok (.goto 5, 3) := by decide +kernel
theorem dX3_keep_21 : decode cX3_keep 21 = .ok (.bipush 79, 2) := by decide +kernel
theorem dX3_keep_23 : decode cX3_keep 23 = .ok (.invokevirtual 122, 3) := by decide +kernel
theorem dX3_keep_26 : decode cX3_keep 26 = .ok (.return_, 1) := by decide +kernel
theorem dX3_load_0 : decode cX3_load 0 = .ok (.aload_n 0, 1) := by decide +kernel
theorem dX3_load_1 : decode cX3_load 1 = .ok (.getfield 19, 3) := by decide +kernel
theorem dX3_load_4 : decode cX3_load 4 = .ok (.iload_n 1, 1) := by decide +kernel
theorem dX3_load_5 : decode cX3_load 5 = .ok (.invokevirtual 171, 3) := by decide +kernel
theorem dX3_load_8 : decode cX3_load 8 = .ok (.iconst 1, 1) := by decide +kernel
theorem dX3_load_9 : decode cX3_load 9 = .ok (.if_icmp .ne 39, 3) := by decide +kernel
theorem dX3_load_12 : decode cX3_load 12 = .ok (.aload_n 0, 1) := by decide +kernel
theorem dX3_load_13 : decode cX3_load 13 = .ok (.getfield 23, 3) := by decide +kernel
theorem dX3_load_16 : decode cX3_load 16 = .ok (.aload_n 0, 1) := by decide +kernel
theorem dX3_load_17 : decode cX3_load 17 = .ok (.getfield 19, 3) := by decide +kernel
theorem dX3_load_20 : decode cX3_load 20 = .ok (.iload_n 1, 1) := by decide +kernel
theorem dX3_load_21 : decode cX3_load 21 = .ok (.invokevirtual 166, 3) := by decide +kernel
theorem dX3_load_24 : decode cX3_load 24 = .ok (.ifCond .eq 8, 3) := by decide +kernel
theorem dX3_load_27 : decode cX3_load 27 = .ok (.bipush 69, 2) := by decide +kernel
theorem dX3_load_29 : decode cX3_load 29 = .ok (.goto 5, 3) := by decide +kernel
theorem dX3_load_32 : decode cX3_load 32 = .ok (.bipush 70, 2) := by decide +kernel
theorem dX3_load_34 : decode cX3_load 34 = .ok (.aload_n 0, 1) := by decide +kernel
theorem dX3_load_35 : decode cX3_load 35 = .ok (.getfield 19, 3) := by decide +kernel
theorem dX3_load_38 : decode cX3_load 38 = .ok (.iload_n 1, 1) := by decide +kernel
theorem dX3_load_39 : decode cX3_load 39 = .ok (.invokevirtual 169, 3) := by decide +kernel
theorem dX3_load_42 : decode cX3_load 42 = .ok (.invokevirtual 128, 3) := by decide +kernel
theorem dX3_load_45 : decode cX3_load 45 = .ok (.goto 20, 3) := by decide +kernel
theorem dX3_load_48 : decode cX3_load 48 = .ok (.aload_n 0, 1) := by decide +kernel
theorem dX3_load_49 : decode cX3_load 49 = .ok (.getfield 23, 3) := by decide +kernel
theorem dX3_load_52 : decode cX3_load 52 = .ok (.bipush 66, 2) := by decide +kernel
theorem dX3_load_54 : decode cX3_load 54 = .ok (.aload_n 0, 1) := by decide +kernel
theorem dX3_load_55 : decode cX3_load 55 = .ok (.getfield 19, 3) := by decide +kernel
theorem dX3_load_58 : decode cX3_load 58 = .ok (.iload_n 1, 1) := by decide +kernel
theorem dX3_load_59 : decode cX3_load 59 = .ok (.invokevirtual 169, 3) := by decide +kernel
theorem dX3_load_62 : decode cX3_load 62 = .ok (.invokevirtual 128, 3) := by decide +kernel
theorem dX3_load_65 : decode cX3_load 65 = .ok (.return_, 1) := by decide +kernel
theorem dX3_store_0 : decode cX3_store 0 = .ok (.aload_n 0, 1) := by decide +kernel
theorem dX3_store_1 : decode cX3_store 1 = .ok (.getfield 23, 3) := by decide +kernel
theorem dX3_store_4 : decode cX3_store 4 = .ok (.aload_n 0, 1) := by decide +kernel
theorem dX3_store_5 : decode cX3_store 5 = .ok (.getfield 19, 3) := by decide +kernel
theorem dX3_store_8 : decode cX3_store 8 = .ok (.iload_n 1, 1) := by decide +kernel
theorem dX3_store_9 : decode cX3_store 9 = .ok (.invokevirtual 166, 3) := by decide +kernel
theorem dX3_store_12 : decode cX3_store 12 = .ok (.ifCond .eq 8, 3) := by decide +kernel
theorem dX3_store_15 : decode cX3_store 15 = .ok (.bipush 71, 2) := by decide +kernel
theorem dX3_store_17 : decode cX3_store 17 = .ok (.goto 5, 3) := by decide +kernel
theorem dX3_store_20 : decode cX3_store 20 = .ok (.bipush 72, 2) := by decide +kernel
theorem dX3_store_22 : decode cX3_store 22 = .ok (.aload_n 0, 1) := by decide +kernel
theorem dX3_store_23 : decode cX3_store 23 = .ok (.getfield 19, 3) := by decide +kernel
theorem dX3_store_26 : decode cX3_store 26 = .ok (.iload_n 1, 1) := by decide +kernel
theorem dX3_store_27 : decode cX3_store 27 = .ok (.invokevirtual 169, 3) := by decide +kernel
theorem dX3_store_30 : decode cX3_store 30 = .ok (.invokevirtual 128, 3) := by decide +kernel
theorem dX3_store_33 : decode cX3_store 33 = .ok (.return_, 1) := by decide +kernel
theorem dX3_pass_0 : decode cX3_pass 0 = .ok (.aload_n 0, 1) := by decide +kernel
theorem dX3_pass_1 : decode cX3_pass 1 = .ok (.getfield 19, 3) := by decide +kernel
theorem dX3_pass_4 : decode cX3_pass 4 = .ok (.iload_n 1, 1) := by decide +kernel
theorem dX3_pass_5 : decode cX3_pass 5 = .ok (.invokevirtual 163, 3) := by decide +kernel
theorem dX3_pass_8 : decode cX3_pass 8 = .ok (.ifCond .ne 7, 3) := by decide +kernel
theorem dX3_pass_11 : decode cX3_pass 11 = .ok (.iconst 1, 1) := by decide +kernel
theorem dX3_pass_12 : decode cX3_pass 12 = .ok (.goto 4, 3) := by decide +kernel
theorem dX3_pass_15 : decode cX3_pass 15 = .ok (.iconst 0, 1) := by decide +kernel
theorem dX3_pass_16 : decode cX3_pass 16 = .ok (.istore_n 2, 1) := by decide +kernel
theorem dX3_pass_17 : decode cX3_pass 17 = .ok (.aload_n 0, 1) := by decide +kernel
theorem dX3_pass_18 : decode cX3_pass 18 = .ok (.getfield 23, 3) := by decide +kernel
theorem dX3_pass_21 : decode cX3_pass 21 = .ok (.iload_n 2, 1) := by decide +kernel
theorem dX3_pass_22 : decode cX3_pass 22 = .ok (.ifCond .eq 8, 3) := by decide +kernel
theorem dX3_pass_25 : decode cX3_pass 25 = .ok (.bipush 83, 2) := by decide +kernel
theorem dX3_pass_27 : decode cX3_pass 27 = .ok (.goto 21, 3) := by decide +kernel
theorem dX3_pass_30 : decode cX3_pass 30 = .ok (.aload_n 0, 1) := by decide +kernel
theorem dX3_pass_31 : decode cX3_pass 31 = .ok (.getfield 19, 3) := by decide +kernel
theorem dX3_pass_34 : decode cX3_pass 34 = .ok (.iload_n 1, 1) := by decide +kernel
theorem dX3_pass_35 : decode cX3_pass 35 = .ok (.invokevirtual 166, 3) := by decide +kernel
theorem dX3_pass_38 : decode cX3_pass 38 = .ok (.ifCond .eq 8, 3) := by decide +kernel
theorem dX3_pass_41 : decode cX3_pass 41 = .ok (.bipush 81, 2) := by decide +kernel
theorem dX3_pass_43 : decode cX3_pass 43 = .ok (.goto 5, 3) := by decide +kernel
theorem dX3_pass_46 : decode cX3_pass 46 = .ok (.bipush 82, 2) := by decide +kernel
theorem dX3_pass_48 : decode cX3_pass 48 = .ok (.aload_n 0, 1) := by decide +kernel
theorem dX3_pass_49 : decode cX3_pass 49 = .ok (.getfield 19, 3) := by decide +kernel
theorem dX3_pass_52 : decode cX3_pass 52 = .ok (.iload_n 1, 1) := by decide +kernel
theorem dX3_pass_53 : decode cX3_pass 53 = .ok (.invokevirtual 169, 3) := by decide +kernel
theorem dX3_pass_56 : decode cX3_pass 56 = .ok (.invokevirtual 128, 3) := by decide +kernel
theorem dX3_pass_59 : decode cX3_pass 59 = .ok (.aload_n 0, 1) := by decide +kernel
theorem dX3_pass_60 : decode cX3_pass 60 = .ok (.getfield 23, 3) := by decide +kernel
theorem dX3_pass_63 : decode cX3_pass 63 = .ok (.aload_n 0, 1) := by decide +kernel
theorem dX3_pass_64 : decode cX3_pass 64 = .ok (.getfield 19, 3) := by decide +kernel
theorem dX3_pass_67 : decode cX3_pass 67 = .ok (.iload_n 1, 1) := by decide +kernel
theorem dX3_pass_68 : decode cX3_pass 68 = .ok (.invokevirtual 163, 3) := by decide +kernel
theorem dX3_pass_71 : decode cX3_pass 71 = .ok (.invokevirtual 122, 3) := by decide +kernel
theorem dX3_pass_74 : decode cX3_pass 74 = .ok (.return_, 1) := by decide +kernel
theorem dX3_call_0 : decode cX3_call 0 = .ok (.aload_n 0, 1) := by decide +kernel
theorem dX3_call_1 : decode cX3_call 1 = .ok (.getfield 19, 3) := by decide +kernel
theorem dX3_call_4 : decode cX3_call 4 = .ok (.iload_n 1, 1) := by decide +kernel
theorem dX3_call_5 : decode cX3_call 5 = .ok (.invokevirtual 171, 3) := by decide +kernel
theorem dX3_call_8 : decode cX3_call 8 = .ok (.iconst 4, 1) := by decide +kernel
theorem dX3_call_9 : decode cX3_call 9 = .ok (.if_icmp .ne 7, 3) := by decide +kernel
theorem dX3_call_12 : decode cX3_call 12 = .ok (.iconst 1, 1) := by decide +kernel
theorem dX3_call_13 : decode cX3_call 13 = .ok (.goto 4, 3) := by decide +kernel
theorem dX3_call_16 : decode cX3_call 16 = .ok (.iconst 0, 1) := by decide +kernel
theorem dX3_call_17 : decode cX3_call 17 = .ok (.istore_n 3, 1) := by decide +kernel
theorem dX3_call_18 : decode cX3_call 18 = .ok (.iload_n 3, 1) := by decide +kernel
theorem dX3_call_19 : decode cX3_call 19 = .ok (.ifCond .eq 14, 3) := by decide +kernel
theorem dX3_call_22 : decode cX3_call 22 = .ok (.aload_n 0, 1) := by decide +kernel
theorem dX3_call_23 : decode cX3_call 23 = .ok (.getfield 19, 3) := by decide +kernel
theorem dX3_call_26 : decode cX3_call 26 = .ok (.iload_n 1, 1) := by decide +kernel
theorem dX3_call_27 : decode cX3_call 27 = .ok (.invokevirtual 169, 3) := by decide +kernel
theorem dX3_call_30 : decode cX3_call 30 = .ok (.goto 4, 3) := by decide +kernel
theorem dX3_call_33 : decode cX3_call 33 = .ok (.iconst (-1), 1) := by decide +kernel
theorem dX3_call_34 : decode cX3_call 34 = .ok (.istore 4, 2) := by decide +kernel
theorem dX3_call_36 : decode cX3_call 36 = .ok (.aload_n 0, 1) := by decide +kernel
theorem dX3_call_37 : decode cX3_call 37 = .ok (.getfield 15, 3) := by decide +kernel
theorem dX3_call_40 : decode cX3_call 40 = .ok (.bipush 19, 2) := by decide +kernel
theorem dX3_call_42 : decode cX3_call 42 = .ok (.invokevirtual 66, 3) := by decide +kernel
theorem dX3_call_45 : decode cX3_call 45 = .ok (.ifCond .ne 4, 3) := by decide +kernel
theorem dX3_call_48 : decode cX3_call 48 = .ok (.return_, 1) := by decide +kernel
theorem dX3_call_49 : decode cX3_call 49 = .ok (.iconst 0, 1) := by decide +kernel
theorem dX3_call_50 : decode cX3_call 50 = .ok (.istore 5, 2) := by decide +kernel
theorem dX3_call_52 : decode cX3_call 52 = .ok (.aload_n 0, 1) := by decide +kernel
theorem dX3_call_53 : decode cX3_call 53 = .ok (.getfield 15, 3) := by decide +kernel
theorem dX3_call_56 : decode cX3_call 56 = .ok (.getfield 85, 3) := by decide +kernel
theorem dX3_call_59 : decode cX3_call 59 = .ok (.bipush 20, 2) := by decide +kernel
theorem dX3_call_61 : decode cX3_call 61 = .ok (.if_icmp .eq 7, 3) := by decide +kernel
theorem dX3_call_64 : decode cX3_call 64 = .ok (.iconst 1, 1) := by decide +kernel
theorem dX3_call_65 : decode cX3_call 65 = .ok (.goto 4, 3) := by decide +kernel
theorem dX3_call_68 : decode cX3_call 68 = .ok (.iconst 0, 1) := by decide +kernel
theorem dX3_call_69 : decode cX3_call 69 = .ok (.istore 6, 2) := by decide +kernel
theorem dX3_call_71 : decode cX3_call 71 = .ok (.iconst 0, 1) := by decide +kernel
theorem dX3_call_72 : decode cX3_call 72 = .ok (.istore 7, 2) := by decide +kernel
theorem dX3_call_74 : decode cX3_call 74 = .ok (.iload 7, 2) := by decide +kernel
theorem dX3_call_76 : decode cX3_call 76 = .ok (.sipush 4001, 3) := by decide +kernel
theorem dX3_call_79 : decode cX3_call 79 = .ok (.if_icmp .ge 167, 3) := by decide +kernel
theorem dX3_call_82 : decode cX3_call 82 = .ok (.iload 6, 2) := by decide +kernel
theorem dX3_call_84 : decode cX3_call 84 = .ok (.ifCond .eq 162, 3) := by decide +kernel
theorem dX3_call_87 : decode cX3_call 87 = .ok (.iload_n 3, 1) := by decide +kernel
theorem dX3_call_88 : decode cX3_call 88 = .ok (.ifCond .eq 17, 3) := by decide +kernel
theorem dX3_call_91 : decode cX3_call 91 = .ok (.aload_n 0, 1) := by decide +kernel
theorem dX3_call_92 : decode cX3_call 92 = .ok (.getfield 27, 3) := by decide +kernel
theorem dX3_call_95 : decode cX3_call 95 = .ok (.iload 4, 2) := by decide +kernel
theorem dX3_call_97 : decode cX3_call 97 = .ok (.iload 7, 2) := by decide +kernel
theorem dX3_call_99 : decode cX3_call 99 = .ok (.invokevirtual 173, 3) := by decide +kernel
theorem dX3_call_102 : decode cX3_call 102 = .ok (.goto 4, 3) := by decide +kernel
theorem dX3_call_105 : decode cX3_call 105 = .ok (.iconst 1, 1) := by decide +kernel
theorem dX3_call_106 : decode cX3_call 106 = .ok (.istore 8, 2) := by decide +kernel
theorem dX3_call_108 : decode cX3_call 108 = .ok (.iload 8, 2) := by decide +kernel
theorem dX3_call_110 : decode cX3_call 110 = .ok (.iconst 1, 1) := by decide +kernel
theorem dX3_call_111 : decode cX3_call 111 = .ok (.if_icmp .le 70, 3) := by decide +kernel
theorem dX3_call_114 : decode cX3_call 114 = .ok (.aload_n 0, 1) := by decide +kernel
theorem dX3_call_115 : decode cX3_call 115 = .ok (.getfield 15, 3) := by decide +kernel
theorem dX3_call_118 : decode cX3_call 118 = .ok (.invokevirtual 178, 3) := by decide +kernel
theorem dX3_call_121 : decode cX3_call 121 = .ok (.ifCond .eq 60, 3) := by decide +kernel
theorem dX3_call_124 : decode cX3_call 124 = .ok (.aload_n 0, 1) := by decide +kernel
theorem dX3_call_125 : decode cX3_call 125 = .ok (.getfield 19, 3) := by decide +kernel
theorem dX3_call_128 : decode cX3_call 128 = .ok (.aload_n 0, 1) := by decide +kernel
theorem dX3_call_129 : decode cX3_call 129 = .ok (.getfield 15, 3) := by decide +kernel
theorem dX3_call_132 : decode cX3_call 132 = .ok (.getfield 125, 3) := by decide +kernel
theorem dX3_call_135 : decode cX3_call 135 = .ok (.aload_n 0, 1) := by decide +kernel
theorem dX3_call_136 : decode cX3_call 136 = .ok (.getfield 15, 3) := by decide +kernel
theorem dX3_call_139 : decode cX3_call 139 = .ok (.getfield 72, 3) := by decide +kernel
theorem dX3_call_142 : decode cX3_call 142 = .ok (.invokevirtual 144, 3) := by decide +kernel
theorem dX3_call_145 : decode cX3_call 145 = .ok (.istore 9, 2) := by decide +kernel
theorem dX3_call_147 : decode cX3_call 147 = .ok (.aload_n 0, 1) := by decide +kernel
theorem dX3_call_148 : decode cX3_call 148 = .ok (.getfield 19, 3) := by decide +kernel
theorem dX3_call_151 : decode cX3_call 151 = .ok (.iload 9, 2) := by decide +kernel
theorem dX3_call_153 : decode cX3_call 153 = .ok (.aload_n 0, 1) := by decide +kernel
theorem dX3_call_154 : decode cX3_call 154 = .ok (.getfield 15, 3) := by decide +kernel
theorem dX3_call_157 : decode cX3_call 157 = .ok (.getfield 72, 3) := by decide +kernel
theorem dX3_call_160 : decode cX3_call 160 = .ok (.iload 8, 2) := by decide +kernel
theorem dX3_call_162 : decode cX3_call 162 = .ok (.invokevirtual 181, 3) := by decide +kernel
theorem dX3_call_165 : decode cX3_call 165 = .ok (.aload_n 0, 1) := by decide +kernel
theorem dX3_call_166 : decode cX3_call 166 = .ok (.iload 9, 2) := by decide +kernel
theorem dX3_call_168 : decode cX3_call 168 = .ok (.invokevirtual 184, 3) := by decide +kernel
theorem dX3_call_171 : decode cX3_call 171 = .ok (.aload_n 0, 1) := by decide +kernel
theorem dX3_call_172 : decode cX3_call 172 = .ok (.getfield 15, 3) := by decide +kernel
theorem dX3_call_175 : decode cX3_call 175 = .ok (.invokevirtual 107, 3) := by decide +kernel
theorem dX3_call_178 : decode cX3_call 178 = .ok (.goto 28, 3) := by decide +kernel
theorem dX3_call_181 : decode cX3_call 181 = .ok (.iload 8, 2) := by decide +kernel
theorem dX3_call_183 : decode cX3_call 183 = .ok (.iconst 1, 1) := by decide +kernel
theorem dX3_call_184 : decode cX3_call 184 = .ok (.if_icmp .eq 18, 3) := by decide +kernel
theorem dX3_call_187 : decode cX3_call 187 = .ok (.aload_n 0, 1) := by decide +kernel
theorem dX3_call_188 : decode cX3_call 188 = .ok (.getfield 19, 3) := by decide +kernel
theorem dX3_call_191 : decode cX3_call 191 = .ok (.iconst 2, 1) := by decide +kernel
theorem dX3_call_192 : decode cX3_call 192 = .ok (.aload_n 0, 1) := by decide +kernel
theorem dX3_call_193 : decode cX3_call 193 = .ok (.getfield 15, 3) := by decide +kernel
theorem dX3_call_196 : decode cX3_call 196 = .ok (.getfield 72, 3) := by decide +kernel
theorem dX3_call_199 : decode cX3_call 199 = .ok (.invokevirtual 138, 3) := by decide +kernel
theorem dX3_call_202 : decode cX3_call 202 = .ok (.aload_n 0, 1) := by decide +kernel
theorem dX3_call_203 : decode cX3_call 203 = .ok (.invokevirtual 49, 3) := by decide +kernel
theorem dX3_call_206 : decode cX3_call 206 = .ok (.iinc 5 1, 3) := by decide +kernel
theorem dX3_call_209 : decode cX3_call 209 = .ok (.aload_n 0, 1) := by decide +kernel
theorem dX3_call_210 : decode cX3_call 210 = .ok (.getfield 15, 3) := by decide +kernel
theorem dX3_call_213 : decode cX3_call 213 = .ok (.getfield 85, 3) := by decide +kernel
theorem dX3_call_216 : decode cX3_call 216 = .ok (.bipush 25, 2) := by decide +kernel
theorem dX3_call_218 : decode cX3_call 218 = .ok (.if_icmp .ne 7, 3) := by decide +kernel
theorem dX3_call_221 : decode cX3_call 221 = .ok (.iconst 1, 1) := by decide +kernel
theorem dX3_call_222 : decode cX3_call 222 = .ok (.goto 4, 3) := by decide +kernel
theorem dX3_call_225 : decode cX3_call 225 = .ok (.iconst 0, 1) := by decide +kernel
theorem dX3_call_226 : decode cX3_call 226 = .ok (.istore 6, 2) := by decide +kernel
theorem dX3_call_228 : decode cX3_call 228 = .ok (.iload 6, 2) := by decide +kernel
theorem dX3_call_230 : decode cX3_call 230 = .ok (.ifCond .eq 10, 3) := by decide +kernel
theorem dX3_call_233 : decode cX3_call 233 = .ok (.aload_n 0, 1) := by decide +kernel
theorem dX3_call_234 : decode cX3_call 234 = .ok (.getfield 15, 3) := by decide +kernel
theorem dX3_call_237 : decode cX3_call 237 = .ok (.invokevirtual 107, 3) := by decide +kernel
theorem dX3_call_240 : decode cX3_call 240 = .ok (.iinc 7 1, 3) := by decide +kernel
theorem dX3_call_243 : decode cX3_call 243 = .ok (.goto (-169), 3) := by decide +kernel
theorem dX3_call_246 : decode cX3_call 246 = .ok (.iload_n 3, 1) := by decide +kernel
theorem dX3_call_247 : decode cX3_call 247 = .ok (.ifCond .eq 33, 3) := by decide +kernel
theorem dX3_call_250 : decode cX3_call 250 = .ok (.aload_n 0, 1) := by decide +kernel
theorem dX3_call_251 : decode cX3_call 251 = .ok (.getfield 27, 3) := by decide +kernel
theorem dX3_call_254 : decode cX3_call 254 = .ok (.iload 4, 2) := by decide +kernel
theorem dX3_call_256 : decode cX3_call 256 = .ok (.iload 5, 2) := by decide +kernel
theorem dX3_call_258 : decode cX3_call 258 = .ok (.invokevirtual 173, 3) := by decide +kernel
theorem dX3_call_261 : decode cX3_call 261 = .ok (.iconst (-1), 1) := by decide +kernel
theorem dX3_call_262 : decode cX3_call 262 = .ok (.if_icmp .eq 18, 3) := by decide +kernel
theorem dX3_call_265 : decode cX3_call 265 = .ok (.aload_n 0, 1) := by decide +kernel
theorem dX3_call_266 : decode cX3_call 266 = .ok (.getfield 19, 3) := by decide +kernel
theorem dX3_call_269 : decode cX3_call 269 = .ok (.iconst 2, 1) := by decide +kernel
theorem dX3_call_270 : decode cX3_call 270 = .ok (.aload_n 0, 1) := by decide +kernel
theorem dX3_call_271 : decode cX3_call 271 = .ok (.getfield 15, 3) := by decide +kernel
theorem dX3_call_274 : decode cX3_call 274 = .ok (.getfield 72, 3) := by decide +kernel
theorem dX3_call_277 : decode cX3_call 277 = .ok (.invokevirtual 138, 3) := by decide +kernel
theorem dX3_call_280 : decode cX3_call 280 = .ok (.aload_n 0, 1) := by decide +kernel
theorem dX3_call_281 : decode cX3_call 281 = .ok (.getfield 15, 3) := by decide +kernel
theorem dX3_call_284 : decode cX3_call 284 = .ok (.bipush 20, 2) := by decide +kernel
theorem dX3_call_286 : decode cX3_call 286 = .ok (.invokevirtual 79, 3) := by decide +kernel
theorem dX3_call_289 : decode cX3_call 289 = .ok (.aload_n 0, 1) := by decide +kernel
theorem dX3_call_290 : decode cX3_call 290 = .ok (.getfield 23, 3) := by decide +kernel
theorem dX3_call_293 : decode cX3_call 293 = .ok (.bipush 90, 2) := by decide +kernel
theorem dX3_call_295 : decode cX3_call 295 = .ok (.iload 4, 2) := by decide +kernel
theorem dX3_call_297 : decode cX3_call 297 = .ok (.invokevirtual 128, 3) := by decide +kernel
theorem dX3_call_300 : decode cX3_call 300 = .ok (.aload_n 0, 1) := by decide +kernel
theorem dX3_call_301 : decode cX3_call 301 = .ok (.getfield 23, 3) := by decide +kernel
theorem dX3_call_304 : decode cX3_call 304 = .ok (.iload_n 2, 1) := by decide +kernel
theorem dX3_call_305 : decode cX3_call 305 = .ok (.invokevirtual 122, 3) := by decide +kernel
theorem dX3_call_308 : decode cX3_call 308 = .ok (.return_, 1) := by decide +kernel
theorem dX4_init_0 : decode cX4_init 0 = .ok (.aload_n 0, 1) := by decide +kernel
theorem dX4_init_1 : decode cX4_init 1 = .ok (.invokespecial 3, 3) := by decide +kernel
theorem dX4_init_4 : decode cX4_init 4 = .ok (.aload_n 0, 1) := by decide +kernel
theorem dX4_init_5 : decode cX4_init 5 = .ok (.aload_n 1, 1) := by decide +kernel
theorem dX4_init_6 : decode cX4_init 6 = .ok (.putfield 9, 3) := by decide +kernel
theorem dX4_init_9 : decode cX4_init 9 = .ok (.aload_n 0, 1) := by decide +kernel
theorem dX4_init_10 : decode cX4_init 10 = .ok (.aload_n 2, 1) := by decide +kernel
theorem dX4_init_11 : decode cX4_init 11 = .ok (.putfield 15, 3) := by decide +kernel
theorem dX4_init_14 : decode cX4_init 14 = .ok (.aload_n 0, 1) := by decide +kernel
theorem dX4_init_15 : decode cX4_init 15 = .ok (.aload_n 3, 1) := by decide +kernel
theorem dX4_init_16 : decode cX4_init 16 = .ok (.putfield 19, 3) := by decide +kernel
theorem dX4_init_19 : decode cX4_init 19 = .ok (.aload_n 0, 1) := by decide +kernel
theorem dX4_init_20 : decode cX4_init 20 = .ok (.aload 4, 2) := by decide +kernel
theorem dX4_init_22 : decode cX4_init 22 = .ok (.putfield 23, 3) := by decide +kernel
theorem dX4_init_25 : decode cX4_init 25 = .ok (.aload_n 0, 1) := by decide +kernel
theorem dX4_init_26 : decode cX4_init 26 = .ok (.aload 5, 2) := by decide +kernel
theorem dX4_init_28 : decode cX4_init 28 = .ok (.putfield 27, 3) := by decide +kernel
theorem dX4_init_31 : decode cX4_init 31 = .ok (.return_, 1) := by decide +kernel
theorem dX4_clear_0 : decode cX4_clear 0 = .ok (.aload_n 0, 1) := by decide +kernel
theorem dX4_clear_1 : decode cX4_clear 1 = .ok (.iload_n 1, 1) := by decide +kernel
theorem dX4_clear_2 : decode cX4_clear 2 = .ok (.putfield 31, 3) := by decide +kernel
theorem dX4_clear_5 : decode cX4_clear 5 = .ok (.aload_n 0, 1) := by decide +kernel
theorem dX4_clear_6 : decode cX4_clear 6 = .ok (.getfield 23, 3) := by decide +kernel
theorem dX4_clear_9 : decode cX4_clear 9 = .ok (.invokevirtual 35, 3) := by decide +kernel
theorem dX4_clear_12 : decode cX4_clear 12 = .ok (.aload_n 0, 1) := by decide +kernel
theorem dX4_clear_13 : decode cX4_clear 13 = .ok (.getfield 15, 3) := by decide +kernel
theorem dX4_clear_16 : decode cX4_clear 16 = .ok (.invokevirtual 40, 3) := by decide +kernel
theorem dX4_clear_19 : decode cX4_clear 19 = .ok (.aload_n 0, 1) := by decide +kernel
theorem dX4_clear_20 : decode cX4_clear 20 = .ok (.getfield 19, 3) := by decide +kernel
theorem dX4_clear_23 : decode cX4_clear 23 = .ok (.iconst 0, 1) := by decide +kernel
theorem dX4_clear_24 : decode cX4_clear 24 = .ok (.putfield 43, 3) := by decide +kernel
theorem dX4_clear_27 : decode cX4_clear 27 = .ok (.return_, 1) := by decide +kernel
theorem dX4_walk_0 : decode cX4_walk 0 = .ok (.aload_n 0, 1) := by decide +kernel
theorem dX4_walk_1 : decode cX4_walk 1 = .ok (.iload_n 1, 1) := by decide +kernel
theorem dX4_walk_2 : decode cX4_walk 2 = .ok (.invokevirtual 48, 3) := by decide +kernel
theorem dX4_walk_5 : decode cX4_walk 5 = .ok (.iconst 0, 1) := by decide +kernel
theorem dX4_walk_6 : decode cX4_walk 6 = .ok (.istore_n 2, 1) := by decide +kernel
theorem dX4_walk_7 : decode cX4_walk 7 = .ok (.iload_n 2, 1) := by decide +kernel
theorem dX4_walk_8 : decode cX4_walk 8 = .ok (.sipush 4001, 3) := by decide +kernel
theorem dX4_walk_11 : decode cX4_walk 11 = .ok (.if_icmp .ge 240, 3) := by decide +kernel
theorem dX4_walk_14 : decode cX4_walk 14 = .ok (.aload_n 0, 1) := by decide +kernel
theorem dX4_walk_15 : decode cX4_walk 15 = .ok (.getfield 9, 3) := by decide +kernel
theorem dX4_walk_18 : decode cX4_walk 18 = .ok (.getfield 52, 3) := by decide +kernel
theorem dX4_walk_21 : decode cX4_walk 21 = .ok (.ifCond .eq 230, 3) := by decide +kernel
theorem dX4_walk_24 : decode cX4_walk 24 = .ok (.aload_n 0, 1) := by decide +kernel
theorem dX4_walk_25 : decode cX4_walk 25 = .ok (.getfield 9, 3) := by decide +kernel
theorem dX4_walk_28 : decode cX4_walk 28 = .ok (.getfield 52, 3) := by decide +kernel
theorem dX4_walk_31 : decode cX4_walk 31 = .ok (.bipush (-2), 2) := by decide +kernel
theorem dX4_walk_33 : decode cX4_walk 33 = .ok (.if_icmp .eq 218, 3) := by decide +kernel
theorem dX4_walk_36 : decode cX4_walk 36 = .ok (.aload_n 0, 1) := by decide +kernel
theorem dX4_walk_37 : decode cX4_walk 37 = .ok (.getfield 9, 3) := by decide +kernel
theorem dX4_walk_40 : decode cX4_walk 40 = .ok (.getfield 52, 3) := by decide +kernel
theorem dX4_walk_43 : decode cX4_walk 43 = .ok (.bipush 7, 2) := by decide +kernel
theorem dX4_walk_45 : decode cX4_walk 45 = .ok (.if_icmp .ne 7, 3) := by decide +kernel
theorem dX4_walk_48 : decode cX4_walk 48 = .ok (.iconst 1, 1) := by decide +kernel
theorem dX4_walk_49 : decode cX4_walk 49 = .ok (.goto 4, 3) := by decide +kernel
theorem dX4_walk_52 : decode cX4_walk 52 = .ok (.iconst 0, 1) := by decide +kernel
theorem dX4_walk_53 : decode cX4_walk 53 = .ok (.istore_n 3, 1) := by decide +kernel
theorem dX4_walk_54 : decode cX4_walk 54 = .ok (.iload_n 3, 1) := by decide +kernel
theorem dX4_walk_55 : decode cX4_walk 55 = .ok (.ifCond .eq 10, 3) := by decide +kernel
theorem dX4_walk_58 : decode cX4_walk 58 = .ok (.aload_n 0, 1) := by decide +kernel
theorem dX4_walk_59 : decode cX4_walk 59 = .ok (.getfield 9, 3) := by decide +kernel
theorem dX4_walk_62 : decode cX4_walk 62 = .ok (.invokevirtual 57, 3) := by decide +kernel
theorem dX4_walk_65 : decode cX4_walk 65 = .ok (.aload_n 0, 1) := by decide +kernel
theorem dX4_walk_66 : decode cX4_walk 66 = .ok (.iload_n 3, 1) := by decide +kernel
theorem dX4_walk_67 : decode cX4_walk 67 = .ok (.invokevirtual 60, 3) := by decide +kernel
theorem dX4_walk_70 : decode cX4_walk 70 = .ok (.istore 4, 2) := by decide +kernel
theorem dX4_walk_72 : decode cX4_walk 72 = .ok (.aload_n 0, 1) := by decide +kernel
theorem dX4_walk_73 : decode cX4_walk 73 = .ok (.getfield 9, 3) := by decide +kernel
theorem dX4_walk_76 : decode cX4_walk 76 = .ok (.getfield 64, 3) := by decide +kernel
theorem dX4_walk_79 : decode cX4_walk 79 = .ok (.istore 5, 2) := by decide +kernel
theorem dX4_walk_81 : decode cX4_walk 81 = .ok (.aload_n 0, 1) := by decide +kernel
theorem dX4_walk_82 : decode cX4_walk 82 = .ok (.getfield 9, 3) := by decide +kernel
theorem dX4_walk_85 : decode cX4_walk 85 = .ok (.getfield 67, 3) := by decide +kernel
theorem dX4_walk_88 : decode cX4_walk 88 = .ok (.istore 6, 2) := by decide +kernel
theorem dX4_walk_90 : decode cX4_walk 90 = .ok (.aload_n 0, 1) := by decide +kernel
theorem dX4_walk_91 : decode cX4_walk 91 = .ok (.getfield 9, 3) := by decide +kernel
theorem dX4_walk_94 : decode cX4_walk 94 = .ok (.iconst 2, 1) := by decide +kernel
theorem dX4_walk_95 : decode cX4_walk 95 = .ok (.invokevirtual 70, 3) := by decide +kernel
theorem dX4_walk_98 : decode cX4_walk 98 = .ok (.iload_n 3, 1) := by decide +kernel
theorem dX4_walk_99 : decode cX4_walk 99 = .ok (.ifCond .eq 14, 3) := by decide +kernel
theorem dX4_walk_102 : decode cX4_walk 102 = .ok (.aload_n 0, 1) := by decide +kernel
theorem dX4_walk_103 : decode cX4_walk 103 = .ok (.iload 5, 2) := by decide +kernel
theorem dX4_walk_105 : decode cX4_walk 105 = .ok (.iload 6, 2) := by decide +kernel
theorem dX4_walk_107 : decode cX4_walk 107 = .ok (.invokevirtual 74, 3) := by decide +kernel
theorem dX4_walk_110 : decode cX4_walk 110 = .ok (.goto 135, 3) := by decide +kernel
theorem dX4_walk_113 : decode cX4_walk 113 = .ok (.aload_n 0, 1) := by decide +kernel
theorem dX4_walk_114 : decode cX4_walk 114 = .ok (.getfield 9, 3) := by decide +kernel
theorem dX4_walk_117 : decode cX4_walk 117 = .ok (.getfield 52, 3) := by decide +kernel
theorem dX4_walk_120 : decode cX4_walk 120 = .ok (.bipush 19, 2) := by decide +kernel
theorem dX4_walk_122 : decode cX4_walk 122 = .ok (.if_icmp .ne 57, 3) := by decide +kernel
theorem dX4_walk_125 : decode cX4_walk 125 = .ok (.iload 4, 2) := by decide +kernel
theorem dX4_walk_127 : decode cX4_walk 127 = .ok (.iconst 5, 1) := by decide +kernel
theorem dX4_walk_128 : decode cX4_walk 128 = .ok (.if_icmp .eq 51, 3) := by decide +kernel
theorem dX4_walk_131 : decode cX4_walk 131 = .ok (.aload_n 0, 1) := by decide +kernel
theorem dX4_walk_132 : decode cX4_walk 132 = .ok (.iload 5, 2) := by decide +kernel
theorem dX4_walk_134 : decode cX4_walk 134 = .ok (.iload 6, 2) := by decide +kernel
theorem dX4_walk_136 : decode cX4_walk 136 = .ok (.iload 4, 2) := by decide +kernel
theorem dX4_walk_138 : decode cX4_walk 138 = .ok (.iconst 4, 1) := by decide +kernel
theorem dX4_walk_139 : decode cX4_walk 139 = .ok (.if_icmp .ne 7, 3) := by decide +kernel
theorem dX4_walk_142 : decode cX4_walk 142 = .ok (.iconst 1, 1) := by decide +kernel
theorem dX4_walk_143 : decode cX4_walk 143 = .ok (.goto 4, 3) := by decide +kernel
theorem dX4_walk_146 : decode cX4_walk 146 = .ok (.iconst 0, 1) := by decide +kernel
theorem dX4_walk_147 : decode cX4_walk 147 = .ok (.invokevirtual 78, 3) := by decide +kernel
theorem dX4_walk_150 : decode cX4_walk 150 = .ok (.aload_n 0, 1) := by decide +kernel
theorem dX4_walk_151 : decode cX4_walk 151 = .ok (.iload 5, 2) := by decide +kernel
theorem dX4_walk_153 : decode cX4_walk 153 = .ok (.aload_n 0, 1) := by decide +kernel
theorem dX4_walk_154 : decode cX4_walk 154 = .ok (.getfield 31, 3) := by decide +kernel
theorem dX4_walk_157 : decode cX4_walk 157 = .ok (.if_icmp .ne 7, 3) := by decide +kernel
theorem dX4_walk_160 : decode cX4_walk 160 = .ok (.iconst 1, 1) := by decide +kernel
theorem dX4_walk_161 : decode cX4_walk 161 = .ok (.goto 4, 3) := by decide +kernel
theorem dX4_walk_164 : decode cX4_walk 164 = .ok (.iconst 0, 1) := by decide +kernel
theorem dX4_walk_165 : decode cX4_walk 165 = .ok (.invokevirtual 82, 3) := by decide +kernel
theorem dX4_walk_168 : decode cX4_walk 168 = .ok (.aload_n 0, 1) := by decide +kernel
theorem dX4_walk_169 : decode cX4_walk 169 = .ok (.invokevirtual 85, 3) := by decide +kernel
theorem dX4_walk_172 : decode cX4_walk 172 = .ok (.aload_n 0, 1) := by decide +kernel
theorem dX4_walk_173 : decode cX4_walk 173 = .ok (.invokevirtual 88, 3) := by decide +kernel
theorem dX4_walk_176 : decode cX4_walk 176 = .ok (.goto 69, 3) := by decide +kernel
theorem dX4_walk_179 : decode cX4_walk 179 = .ok (.aload_n 0, 1) := by decide +kernel
theorem dX4_walk_180 : decode cX4_walk 180 = .ok (.getfield 9, 3) := by decide +kernel
theorem dX4_walk_183 : decode cX4_walk 183 = .ok (.getfield 52, 3) := by decide +kernel
theorem dX4_walk_186 : decode cX4_walk 186 = .ok (.bipush 21, 2) := by decide +kernel
theorem dX4_walk_188 : decode cX4_walk 188 = .ok (.if_icmp .ne 32, 3) := by decide +kernel
theorem dX4_walk_191 : decode cX4_walk 191 = .ok (.iload 4, 2) := by decide +kernel
theorem dX4_walk_193 : decode cX4_walk 193 = .ok (.bipush 6, 2) := by decide +kernel
theorem dX4_walk_195 : decode cX4_walk 195 = .ok (.if_icmp .eq 25, 3) := by decide +kernel
theorem dX4_walk_198 : decode cX4_walk 198 = .ok (.aload_n 0, 1) := by decide +kernel
theorem dX4_walk_199 : decode cX4_walk 199 = .ok (.iload 5, 2) := by decide +kernel
theorem dX4_walk_201 : decode cX4_walk 201 = .ok (.iload 6, 2) := by decide +kernel
theorem dX4_walk_203 : decode cX4_walk 203 = .ok (.iload 4, 2) := by decide +kernel
theorem dX4_walk_205 : decode cX4_walk 205 = .ok (.iconst 4, 1) := by decide +kernel
theorem dX4_walk_206 : decode cX4_walk 206 = .ok (.if_icmp .ne 7, 3) := by decide +kernel
theorem dX4_walk_209 : decode cX4_walk 209 = .ok (.iconst 2, 1) := by decide +kernel
theorem dX4_walk_210 : decode cX4_walk 210 = .ok (.goto 4, 3) := by decide +kernel
theorem dX4_walk_213 : decode cX4_walk 213 = .ok (.iconst 3, 1) := by decide +kernel
theorem dX4_walk_214 : decode cX4_walk 214 = .ok (.invokevirtual 91, 3) := by decide +kernel
theorem dX4_walk_217 : decode cX4_walk 217 = .ok (.goto 28, 3) := by decide +kernel
theorem dX4_walk_220 : decode cX4_walk 220 = .ok (.iload 4, 2) := by decide +kernel
theorem dX4_walk_222 : decode cX4_walk 222 = .ok (.iconst 4, 1) := by decide +kernel
theorem dX4_walk_223 : decode cX4_walk 223 = .ok (.if_icmp .ne 14, 3) := by decide +kernel
theorem dX4_walk_226 : decode cX4_walk 226 = .ok (.aload_n 0, 1) := by decide +kernel
theorem dX4_walk_227 : decode cX4_walk 227 = .ok (.iload 5, 2) := by decide +kernel
theorem dX4_walk_229 : decode cX4_walk 229 = .ok (.iload 6, 2) := by decide +kernel
theorem dX4_walk_231 : decode cX4_walk 231 = .ok (.invokevirtual 95, 3) := by decide +kernel
theorem dX4_walk_234 : decode cX4_walk 234 = .ok (.goto 11, 3) := by decide +kernel
theorem dX4_walk_237 : decode cX4_walk 237 = .ok (.aload_n 0, 1) := by decide +kernel
theorem dX4_walk_238 : decode cX4_walk 238 = .ok (.getfield 9, 3) := by decide +kernel
theorem dX4_walk_241 : decode cX4_walk 241 = .ok (.iconst 2, 1) := by decide +kernel
theorem dX4_walk_242 : decode cX4_walk 242 = .ok (.invokevirtual 98, 3) := by decide +kernel
theorem dX4_walk_245 : decode cX4_walk 245 = .ok (.iinc 2 1, 3) := by decide +kernel
theorem dX4_walk_248 : decode cX4_walk 248 = .ok (.goto (-241), 3) := by decide +kernel
theorem dX4_walk_251 : decode cX4_walk 251 = .ok (.aload_n 0, 1) := by decide +kernel
theorem dX4_walk_252 : decode cX4_walk 252 = .ok (.getfield 23, 3) := by decide +kernel
theorem dX4_walk_255 : decode cX4_walk 255 = .ok (.getfield 101, 3) := by decide +kernel
theorem dX4_walk_258 : decode cX4_walk 258 = .ok (.iconst (-1), 1) := by decide +kernel
theorem dX4_walk_259 : decode cX4_walk 259 = .ok (.if_icmp .ne 19, 3) := by decide +kernel
theorem dX4_walk_262 : decode cX4_walk 262 = .ok (.aload_n 0, 1) := by decide +kernel
theorem dX4_walk_263 : decode cX4_walk 263 = .ok (.getfield 15, 3) := by decide +kernel
theorem dX4_walk_266 : decode cX4_walk 266 = .ok (.bipush 9, 2) := by decide +kernel
theorem dX4_walk_268 : decode cX4_walk 268 = .ok (.aload_n 0, 1) := by decide +kernel
theorem dX4_walk_269 : decode cX4_walk 269 = .ok (.getfield 9, 3) := by decide +kernel
theorem dX4_walk_272 : decode cX4_walk 272 = .ok (.getfield 67, 3) := by decide +kernel
theorem dX4_walk_275 : decode cX4_walk 275 = .ok (.invokevirtual 104, 3) := by decide +kernel
theorem dX4_walk_278 : decode cX4_walk 278 = .ok (.iload_n 1, 1) := by decide +kernel
theorem dX4_walk_279 : decode cX4_walk 279 = .ok (.ifCond .eq 13, 3) := by decide +kernel
theorem dX4_walk_282 : decode cX4_walk 282 = .ok (.aload_n 0, 1) := by decide +kernel
theorem dX4_walk_283 : decode cX4_walk 283 = .ok (.getfield 15, 3) := by decide +kernel
theorem dX4_walk_286 : decode cX4_walk 286 = .ok (.invokevirtual 107, 3) := by decide +kernel
theorem dX4_walk_289 : decode cX4_walk 289 = .ok (.goto 10, 3) := by decide +kernel
theorem dX4_walk_292 : decode cX4_walk 292 = .ok (.aload_n 0, 1) := by decide +kernel
theorem dX4_walk_293 : decode cX4_walk 293 = .ok (.getfield 9, 3) := by decide +kernel
theorem dX4_walk_296 : decode cX4_walk 296 = .ok (.getfield 111, 3) := by decide +kernel
theorem dX4_walk_299 : decode cX4_walk 299 = .ok (.ireturn, 1) := by decide +kernel
theorem dX4_start_0 : decode cX4_start 0 = .ok (.aload_n 0, 1) := by decide +kernel
theorem dX4_start_1 : decode cX4_start 1 = .ok (.iconst 0, 1) := by decide +kernel
theorem dX4_start_2 : decode cX4_start 2 = .ok (.putfield 113, 3) := by decide +kernel
theorem dX4_start_5 : decode cX4_start 5 = .ok (.aload_n 0, 1) := by decide +kernel
theorem dX4_start_6 : decode cX4_start 6 = .ok (.iconst 0, 1) := by decide +kernel
theorem dX4_start_7 : decode cX4_start 7 = .ok (.putfield 116, 3) := by decide +kernel
theorem dX4_start_10 : decode cX4_start 10 = .ok (.aload_n 0, 1) := by decide +kernel
theorem dX4_start_11 : decode cX4_start 11 = .ok (.iconst (-1), 1) := by decide +kernel
theorem dX4_start_12 : decode cX4_start 12 = .ok (.putfield 119, 3) := by decide +kernel
theorem dX4_start_15 : decode cX4_start 15 = .ok (.aload_n 0, 1) := by decide +kernel
theorem dX4_start_16 : decode cX4_start 16 = .ok (.iconst (-1), 1) := by decide +kernel
theorem dX4_start_17 : decode cX4_start 17 = .ok (.putfield 122, 3) := by decide +kernel
theorem dX4_start_20 : decode cX4_start 20 = .ok (.aload_n 0, 1) := by decide +kernel
theorem dX4_start_21 : decode cX4_start 21 = .ok (.getfield 15, 3) := by decide +kernel
theorem dX4_start_24 : decode cX4_start 24 = .ok (.iconst 0, 1) := by decide +kernel
theorem dX4_start_25 : decode cX4_start 25 = .ok (.putfield 125, 3) := by decide +kernel
theorem dX4_start_28 : decode cX4_start 28 = .ok (.aload_n 0, 1) := by decide +kernel
theorem dX4_start_29 : decode cX4_start 29 = .ok (.getfield 15, 3) := by decide +kernel
theorem dX4_start_32 : decode cX4_start 32 = .ok (.iload_n 1, 1) := by decide +kernel
theorem dX4_start_33 : decode cX4_start 33 = .ok (.putfield 128, 3) := by decide +kernel
theorem dX4_start_36 : decode cX4_start 36 = .ok (.aload_n 0, 1) := by decide +kernel
theorem dX4_start_37 : decode cX4_start 37 = .ok (.getfield 19, 3) := by decide +kernel
theorem dX4_start_40 : decode cX4_start 40 = .ok (.iload_n 1, 1) := by decide +kernel
theorem dX4_start_41 : decode cX4_start 41 = .ok (.putfield 132, 3) := by decide +kernel
theorem dX4_start_44 : decode cX4_start 44 = .ok (.aload_n 0, 1) := by decide +kernel
theorem dX4_start_45 : decode cX4_start 45 = .ok (.getfield 27, 3) := by decide +kernel
theorem dX4_start_48 : decode cX4_start 48 = .ok (.invokevirtual 133, 3) := by decide +kernel
theorem dX4_start_51 : decode cX4_start 51 = .ok (.aload_n 0, 1) := by decide +kernel
theorem dX4_start_52 : decode cX4_start 52 = .ok (.getfield 9, 3) := by decide +kernel
theorem dX4_start_55 : decode cX4_start 55 = .ok (.invokevirtual 137, 3) := by decide +kernel
theorem dX4_start_58 : decode cX4_start 58 = .ok (.return_, 1) := by decide +kernel
theorem dX4_kindWord_0 : decode cX4_kindWord 0 = .ok (.aload_n 0, 1) := by decide +kernel
theorem dX4_kindWord_1 : decode cX4_kindWord 1 = .ok (.getfield 9, 3) := by decide +kernel
theorem dX4_kindWord_4 : decode cX4_kindWord 4 = .ok (.getfield 52, 3) := by decide +kernel
theorem dX4_kindWord_7 : decode cX4_kindWord 7 = .ok (.istore_n 2, 1) := by decide +kernel
theorem dX4_kindWord_8 : decode cX4_kindWord 8 = .ok (.iload_n 2, 1) := by decide +kernel
theorem dX4_kindWord_9 : decode cX4_kindWord 9 = .ok (.iconst 4, 1) := by decide +kernel
theorem dX4_kindWord_10 : decode cX4_kindWord 10 = .ok (.if_icmp .eq 18, 3) := by decide +kernel
theorem dX4_kindWord_13 : decode cX4_kindWord 13 = .ok (.iload_n 1, 1) := by decide +kernel
theorem dX4_kindWord_14 : decode cX4_kindWord 14 = .ok (.ifCond .ne 24, 3) := by decide +kernel
theorem dX4_kindWord_17 : decode cX4_kindWord 17 = .ok (.iload_n 2, 1) := by decide +kernel
theorem dX4_kindWord_18 : decode cX4_kindWord 18 = .ok (.iconst 5, 1) := by decide +kernel
theorem dX4_kindWord_19 : decode cX4_kindWord 19 = .ok (.if_icmp .eq 9, 3) := by decide +kernel
theorem dX4_kindWord_22 : decode cX4_kindWord 22 = .ok (.iload_n 2, 1) := by decide +kernel
theorem dX4_kindWord_23 : decode cX4_kindWord 23 = .ok (.bipush 6, 2) := by decide +kernel
theorem dX4_kindWord_25 : decode cX4_kindWord 25 = .ok (.if_icmp .ne 13, 3) := by decide +kernel
theorem dX4_kindWord_28 : decode cX4_kindWord 28 = .ok (.aload_n 0, 1) := by decide +kernel
theorem dX4_kindWord_29 : decode cX4_kindWord 29 = .ok (.getfield 9, 3) := by decide +kernel
theorem dX4_kindWord_32 : decode cX4_kindWord 32 = .ok (.invokevirtual 57, 3) := by decide +kernel
theorem dX4_kindWord_35 : decode cX4_kindWord 35 = .ok (.goto 11, 3) := by decide +kernel
theorem dX4_kindWord_38 : decode cX4_kindWord 38 = .ok (.aload_n 0, 1) := by decide +kernel
theorem dX4_kindWord_39 : decode cX4_kindWord 39 = .ok (.getfield 9, 3) := by decide +kernel
theorem dX4_kindWord_42 : decode cX4_kindWord 42 = .ok (.iconst 2, 1) := by decide +kernel
theorem dX4_kindWord_43 : decode cX4_kindWord 43 = .ok (.invokevirtual 98, 3) := by decide +kernel
theorem dX4_kindWord_46 : decode cX4_kindWord 46 = .ok (.iload_n 2, 1) := by decide +kernel
theorem dX4_kindWord_47 : decode cX4_kindWord 47 = .ok (.ireturn, 1) := by decide +kernel
theorem dX4_constTold_0 : decode cX4_constTold 0 = .ok (.aload_n 0, 1) := by decide +kernel
theorem dX4_constTold_1 : decode cX4_constTold 1 = .ok (.getfield 9, 3) := by decide +kernel
theorem dX4_constTold_4 : decode cX4_constTold 4 = .ok (.bipush 29, 2) := by decide +kernel
theorem dX4_constTold_6 : decode cX4_constTold 6 = .ok (.invokevirtual 70, 3) := by decide +kernel
theorem dX4_constTold_9 : decode cX4_constTold 9 = .ok (.aload_n 0, 1) := by decide +kernel
theorem dX4_constTold_10 : decode cX4_constTold 10 = .ok (.getfield 27, 3) := by decide +kernel
theorem dX4_constTold_13 : decode cX4_constTold 13 = .ok (.invokevirtual 138, 3) := by decide +kernel
theorem dX4_constTold_16 : decode cX4_constTold 16 = .ok (.istore_n 3, 1) := by decide +kernel
theorem dX4_constTold_17 : decode cX4_constTold 17 = .ok (.aload_n 0, 1) := by decide +kernel
theorem dX4_constTold_18 : decode cX4_constTold 18 = .ok (.getfield 9, 3) := by decide +kernel
theorem dX4_constTold_21 : decode cX4_constTold 21 = .ok (.bipush 26, 2) := by decide +kernel
theorem dX4_constTold_23 : decode cX4_constTold 23 = .ok (.invokevirtual 70, 3) := by decide +kernel
theorem dX4_constTold_26 : decode cX4_constTold 26 = .ok (.aload_n 0, 1) := by decide +kernel
theorem dX4_constTold_27 : decode cX4_constTold 27 = .ok (.getfield 15, 3) := by decide +kernel
theorem dX4_constTold_30 : decode cX4_constTold 30 = .ok (.iload_n 1, 1) := by decide +kernel
theorem dX4_constTold_31 : decode cX4_constTold 31 = .ok (.iload_n 2, 1) := by decide +kernel
theorem dX4_constTold_32 : decode cX4_constTold 32 = .ok (.iconst 0, 1) := by decide +kernel
theorem dX4_constTold_33 : decode cX4_constTold 33 = .ok (.iload_n 3, 1) := by decide +kernel
theorem dX4_constTold_34 : decode cX4_constTold 34 = .ok (.iconst 0, 1) := by decide +kernel
theorem dX4_constTold_35 : decode cX4_constTold 35 = .ok (.invokevirtual 141, 3) := by decide +kernel
theorem dX4_constTold_38 : decode cX4_constTold 38 = .ok (.return_, 1) := by decide +kernel
theorem dX4_globalInt_0 : decode cX4_globalInt 0 = .ok (.iconst 0, 1) := by decide +kernel
theorem dX4_globalInt_1 : decode cX4_globalInt 1 = .ok (.istore_n 3, 1) := by decide +kernel
theorem dX4_globalInt_2 : decode cX4_globalInt 2 = .ok (.aload_n 0, 1) := by decide +kernel
theorem dX4_globalInt_3 : decode cX4_globalInt 3 = .ok (.getfield 9, 3) := by decide +kernel
theorem dX4_globalInt_6 : decode cX4_globalInt 6 = .ok (.getfield 52, 3) := by decide +kernel
theorem dX4_globalInt_9 : decode cX4_globalInt 9 = .ok (.bipush 29, 2) := by decide +kernel
theorem dX4_globalInt_11 : decode cX4_globalInt 11 = .ok (.if_icmp .ne 18, 3) := by decide +kernel
theorem dX4_globalInt_14 : decode cX4_globalInt 14 = .ok (.aload_n 0, 1) := by decide +kernel
theorem dX4_globalInt_15 : decode cX4_globalInt 15 = .ok (.getfield 9, 3) := by decide +kernel
theorem dX4_globalInt_18 : decode cX4_globalInt 18 = .ok (.invokevirtual 57, 3) := by decide +kernel
theorem dX4_globalInt_21 : decode cX4_globalInt 21 = .ok (.aload_n 0, 1) := by decide +kernel
theorem dX4_globalInt_22 : decode cX4_globalInt 22 = .ok (.getfield 27, 3) := by decide +kernel
theorem dX4_globalInt_25 : decode cX4_globalInt 25 = .ok (.invokevirtual 138, 3) := by decide +kernel
theorem dX4_globalInt_28 : decode cX4_globalInt 28 = .ok (.istore_n 3, 1) := by decide +kernel
theorem dX4_globalInt_29 : decode cX4_globalInt 29 = .ok (.aload_n 0, 1) := by decide +kernel
theorem dX4_globalInt_30 : decode cX4_globalInt 30 = .ok (.getfield 9, 3) := by decide +kernel
theorem dX4_globalInt_33 : decode cX4_globalInt 33 = .ok (.bipush 26, 2) := by decide +kernel
theorem dX4_globalInt_35 : decode cX4_globalInt 35 = .ok (.invokevirtual 70, 3) := by decide +kernel
theorem dX4_globalInt_38 : decode cX4_globalInt 38 = .ok (.aload_n 0, 1) := by decide +kernel
theorem dX4_globalInt_39 : decode cX4_globalInt 39 = .ok (.getfield 15, 3) := by decide +kernel
theorem dX4_globalInt_42 : decode cX4_globalInt 42 = .ok (.iconst 1, 1) := by decide +kernel
theorem dX4_globalInt_43 : decode cX4_globalInt 43 = .ok (.iload_n 2, 1) := by decide +kernel
theorem dX4_globalInt_44 : decode cX4_globalInt 44 = .ok (.invokevirtual 145, 3) := by decide +kernel
theorem dX4_globalInt_47 : decode cX4_globalInt 47 = .ok (.istore 4, 2) := by decide +kernel
theorem dX4_globalInt_49 : decode cX4_globalInt 49 = .ok (.aload_n 0, 1) := by decide +kernel
theorem dX4_globalInt_50 : decode cX4_globalInt 50 = .ok (.getfield 23, 3) := by decide +kernel
theorem dX4_globalInt_53 : decode cX4_globalInt 53 = .ok (.iload 4, 2) := by decide +kernel
theorem dX4_globalInt_55 : decode cX4_globalInt 55 = .ok (.iload_n 3, 1) := by decide +kernel
theorem dX4_globalInt_56 : decode cX4_globalInt 56 = .ok (.invokevirtual 149, 3) := by decide +kernel
theorem dX4_globalInt_59 : decode cX4_globalInt 59 = .ok (.aload_n 0, 1) := by decide +kernel
theorem dX4_globalInt_60 : decode cX4_globalInt 60 = .ok (.getfield 15, 3) := by decide +kernel
theorem dX4_globalInt_63 : decode cX4_globalInt 63 = .ok (.iload_n 1, 1) := by decide +kernel
theorem dX4_globalInt_64 : decode cX4_globalInt 64 = .ok (.iload_n 2, 1) := by decide +kernel
theorem dX4_globalInt_65 : decode cX4_globalInt 65 = .ok (.iconst 1, 1) := by decide +kernel
theorem dX4_globalInt_66 : decode cX4_globalInt 66 = .ok (.iload 4, 2) := by decide +kernel
theorem dX4_globalInt_68 : decode cX4_globalInt 68 = .ok (.iconst 0, 1) := by decide +kernel
theorem dX4_globalInt_69 : decode cX4_globalInt 69 = .ok (.invokevirtual 141, 3) := by decide +kernel
theorem dX4_globalInt_72 : decode cX4_globalInt 72 = .ok (.return_, 1) := by decide +kernel
theorem dX4_globalArray_0 : decode cX4_globalArray 0 = .ok (.aload_n 0, 1) := by decide +kernel
theorem dX4_globalArray_1 : decode cX4_globalArray 1 = .ok (.getfield 27, 3) := by decide +kernel
theorem dX4_globalArray_4 : decode cX4_globalArray 4 = .ok (.invokevirtual 152, 3) := by decide +kernel
theorem dX4_globalArray_7 : decode cX4_globalArray 7 = .ok (.istore 4, 2) := by decide +kernel
theorem dX4_globalArray_9 : decode cX4_globalArray 9 = .ok (.aload_n 0, 1) := by decide +kernel
theorem dX4_globalArray_10 : decode cX4_globalArray 10 = .ok (.getfield 15, 3) := by decide +kernel
theorem dX4_globalArray_13 : decode cX4_globalArray 13 = .ok (.iload_n 3, 1) := by decide +kernel
theorem dX4_globalArray_14 : decode cX4_globalArray 14 = .ok (.iload 4, 2) := by decide +kernel
theorem dX4_globalArray_16 : decode cX4_globalArray 16 = .ok (.invokestatic 155, 3) := by decide +kernel
theorem dX4_globalArray_19 : decode cX4_globalArray 19 = .ok (.iload_n 2, 1) := by decide +kernel
theorem dX4_globalArray_20 : decode cX4_globalArray 20 = .ok (.invokevirtual 145, 3) := by decide +kernel
theorem dX4_globalArray_23 : decode cX4_globalArray 23 = .ok (.istore 5, 2) := by decide +kernel
theorem dX4_globalArray_25 : decode cX4_globalArray 25 = .ok (.aload_n 0, 1) := by decide +kernel
theorem dX4_globalArray_26 : decode cX4_globalArray 26 = .ok (.getfield 9, 3) := by decide +kernel
theorem dX4_globalArray_29 : decode cX4_globalArray 29 = .ok (.getfield 52, 3) := by decide +kernel
theorem dX4_globalArray_32 : decode cX4_globalArray 32 = .ok (.bipush 29, 2) := by decide +kernel
theorem dX4_globalArray_34 : decode cX4_globalArray 34 = .ok (.if_icmp .ne 19, 3) := by decide +kernel
theorem dX4_globalArray_37 : decode cX4_globalArray 37 = .ok (.aload_n 0, 1) := by decide +kernel
theorem dX4_globalArray_38 : decode cX4_globalArray 38 = .ok (.getfield 9, 3) := by decide +kernel
theorem dX4_globalArray_41 : decode cX4_globalArray 41 = .ok (.invokevirtual 57, 3) := by decide +kernel
theorem dX4_globalArray_44 : decode cX4_globalArray 44 = .ok (.aload_n 0, 1) := by decide +kernel
theorem dX4_globalArray_45 : decode cX4_globalArray 45 = .ok (.iload_n 3, 1) := by decide +kernel
theorem dX4_globalArray_46 : decode cX4_globalArray 46 = .ok (.iload 5, 2) := by decide +kernel
theorem dX4_globalArray_48 : decode cX4_globalArray 48 = .ok (.iload 4, 2) := by decide +kernel
theorem dX4_globalArray_50 : decode cX4_globalArray 50 = .ok (.invokevirtual 158, 3) := by decide +kernel
theorem dX4_globalArray_53 : decode cX4_globalArray 53 = .ok (.aload_n 0, 1) := by decide +kernel
theorem dX4_globalArray_54 : decode cX4_globalArray 54 = .ok (.getfield 9, 3) := by decide +kernel
theorem dX4_globalArray_57 : decode cX4_globalArray 57 = .ok (.bipush 26, 2) := by decide +kernel
theorem dX4_globalArray_59 : decode cX4_globalArray 59 = .ok (.invokevirtual 70, 3) := by decide +kernel
theorem dX4_globalArray_62 : decode cX4_globalArray 62 = .ok (.aload_n 0, 1) := by decide +kernel
theorem dX4_globalArray_63 : decode cX4_globalArray 63 = .ok (.getfield 15, 3) := by decide +kernel
theorem dX4_globalArray_66 : decode cX4_globalArray 66 = .ok (.iload_n 1, 1) := by decide +kernel
theorem dX4_globalArray_67 : decode cX4_globalArray 67 = .ok (.iload_n 2, 1) := by decide +kernel
theorem dX4_globalArray_68 : decode cX4_globalArray 68 = .ok (.iload_n 3, 1) := by decide +kernel
theorem dX4_globalArray_69 : decode cX4_globalArray 69 = .ok (.iload 5, 2) := by decide +kernel
theorem dX4_globalArray_71 : decode cX4_globalArray 71 = .ok (.iload 4, 2) := by decide +kernel
theorem dX4_globalArray_73 : decode cX4_globalArray 73 = .ok (.invokevirtual 141, 3) := by decide +kernel
theorem dX4_globalArray_76 : decode cX4_globalArray 76 = .ok (.return_, 1) := by decide +kernel
theorem dX4_wordsOf_0 : decode cX4_wordsOf 0 = .ok (.iload_n 0, 1) := by decide +kernel
theorem dX4_wordsOf_1 : decode cX4_wordsOf 1 = .ok (.iconst 2, 1) := by decide +kernel
theorem dX4_wordsOf_2 : decode cX4_wordsOf 2 = .ok (.if_icmp .ne 7, 3) := by decide +kernel
theorem dX4_wordsOf_5 : decode cX4_wordsOf 5 = .ok (.iload_n 1, 1) := by decide +kernel
theorem dX4_wordsOf_6 : decode cX4_wordsOf 6 = .ok (.goto 8, 3) := by decide +kernel
theorem dX4_wordsOf_9 : decode cX4_wordsOf 9 = .ok (.iload_n 1, 1) := by decide +kernel
theorem dX4_wordsOf_10 : decode cX4_wordsOf 10 = .ok (.iconst 3, 1) := by decide +kernel
theorem dX4_wordsOf_11 : decode cX4_wordsOf 11 = .ok (.iadd, 1) := by decide +kernel
theorem dX4_wordsOf_12 : decode cX4_wordsOf 12 = .ok (.iconst 4, 1) := by decide +kernel
theorem dX4_wordsOf_13 : decode cX4_wordsOf 13 = .ok (.idiv, 1) := by decide +kernel
theorem dX4_wordsOf_14 : decode cX4_wordsOf 14 = .ok (.ireturn, 1) := by decide +kernel
theorem dX4_elements_0 : decode cX4_elements 0 = .ok (.aload_n 0, 1) := by decide +kernel
theorem dX4_elements_1 : decode cX4_elements 1 = .ok (.getfield 9, 3) := by decide +kernel
theorem dX4_elements_4 : decode cX4_elements 4 = .ok (.bipush 23, 2) := by decide +kernel
theorem dX4_elements_6 : decode cX4_elements 6 = .ok (.invokevirtual 161, 3) := by decide +kernel
theorem dX4_elements_9 : decode cX4_elements 9 = .ok (.ifCond .ne 4, 3) := by decide +kernel
theorem dX4_elements_12 : decode cX4_elements 12 = .ok (.return_, 1) := by decide +kernel
theorem dX4_elements_13 : decode cX4_elements 13 = .ok (.iconst 1, 1) := by decide +kernel
theorem dX4_elements_14 : decode cX4_elements 14 = .ok (.istore 4, 2) := by decide +kernel
theorem dX4_elements_16 : decode cX4_elements 16 = .ok (.iconst 0, 1) := by decide +kernel
theorem dX4_elements_17 : decode cX4_elements 17 = .ok (.istore 5, 2) := by decide +kernel
theorem dX4_elements_19 : decode cX4_elements 19 = .ok (.iload 5, 2) := by decide +kernel
theorem dX4_elements_21 : decode cX4_elements 21 = .ok (.sipush 4001, 3) := by decide +kernel
theorem dX4_elements_24 : decode cX4_elements 24 = .ok (.if_icmp .ge 116, 3) := by decide +kernel
theorem dX4_elements_27 : decode cX4_elements 27 = .ok (.iload 4, 2) := by decide +kernel
theorem dX4_elements_29 : decode cX4_elements 29 = .ok (.ifCond .eq 111, 3) := by decide +kernel
theorem dX4_elements_32 : decode cX4_elements 32 = .ok (.aload_n 0, 1) := by decide +kernel
theorem dX4_elements_33 : decode cX4_elements 33 = .ok (.getfield 9, 3) := by decide +kernel
theorem dX4_elements_36 : decode cX4_elements 36 = .ok (.getfield 67, 3) := by decide +kernel
theorem dX4_elements_39 : decode cX4_elements 39 = .ok (.istore 6, 2) := by decide +kernel
theorem dX4_elements_41 : decode cX4_elements 41 = .ok (.aload_n 0, 1) := by decide +kernel
theorem dX4_elements_42 : decode cX4_elements 42 = .ok (.getfield 27, 3) := by decide +kernel
theorem dX4_elements_45 : decode cX4_elements 45 = .ok (.invokevirtual 138, 3) := by decide +kernel
theorem dX4_elements_48 : decode cX4_elements 48 = .ok (.istore 7, 2) := by decide +kernel
theorem dX4_elements_50 : decode cX4_elements 50 = .ok (.iload 5, 2) := by decide +kernel
theorem dX4_elements_52 : decode cX4_elements 52 = .ok (.iload_n 3, 1) := by decide +kernel
theorem dX4_elements_53 : decode cX4_elements 53 = .ok (.if_icmp .lt 17, 3) := by decide +kernel
theorem dX4_elements_56 : decode cX4_elements 56 = .ok (.aload_n 0, 1) := by decide +kernel
theorem dX4_elements_57 : decode cX4_elements 57 = .ok (.getfield 15, 3) := by decide +kernel
theorem dX4_elements_60 : decode cX4_elements 60 = .ok (.bipush 7, 2) := by decide +kernel
theorem dX4_elements_62 : decode cX4_elements 62 = .ok (.iload 6, 2) := by decide +kernel
theorem dX4_elements_64 : decode cX4_elements 64 = .ok (.invokevirtual 104, 3) := by decide +kernel
theorem dX4_elements_67 : decode cX4_elements 67 = .ok (.goto 36, 3) := by decide +kernel
theorem dX4_elements_70 : decode cX4_elements 70 = .ok (.iload_n 1, 1) := by decide +kernel
theorem dX4_elements_71 : decode cX4_elements 71 = .ok (.iconst 2, 1) := by decide +kernel
theorem dX4_elements_72 : decode cX4_elements 72 = .ok (.if_icmp .ne 19, 3) := by decide +kernel
