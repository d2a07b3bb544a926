theorem dX4_elements_75 : decode cX4_elements 75 = .ok (.aload_n 0, 1) := by decide +kernel
theorem dX4_elements_76 : decode cX4_elements 76 = .ok (.getfield 23, 3) := by decide +kernel
theorem dX4_elements_79 : decode cX4_elements 79 = .ok (.iload_n 2, 1) := by decide +kernel
theorem dX4_elements_80 : decode cX4_elements 80 = .ok (.iload 5, 2) := by decide +kernel
theorem dX4_elements_82 : decode cX4_elements 82 = .ok (.iadd, 1) := by decide +kernel
theorem dX4_elements_83 : decode cX4_elements 83 = .ok (.iload 7, 2) := by decide +kernel
theorem dX4_elements_85 : decode cX4_elements 85 = .ok (.invokevirtual 149, 3) := by decide +kernel
theorem dX4_elements_88 : decode cX4_elements 88 = .ok (.goto 15, 3) := by decide +kernel
theorem dX4_elements_91 : decode cX4_elements 91 = .ok (.aload_n 0, 1) := by decide +kernel
theorem dX4_elements_92 : decode cX4_elements 92 = .ok (.getfield 23, 3) := by decide +kernel
theorem dX4_elements_95 : decode cX4_elements 95 = .ok (.iload_n 2, 1) := by decide +kernel
theorem dX4_elements_96 : decode cX4_elements 96 = .ok (.iload 5, 2) := by decide +kernel
theorem dX4_elements_98 : decode cX4_elements 98 = .ok (.iload 7, 2) := by decide +kernel
theorem dX4_elements_100 : decode cX4_elements 100 = .ok (.invokevirtual 165, 3) := by decide +kernel
theorem dX4_elements_103 : decode cX4_elements 103 = .ok (.aload_n 0, 1) := by decide +kernel
theorem dX4_elements_104 : decode cX4_elements 104 = .ok (.getfield 9, 3) := by decide +kernel
theorem dX4_elements_107 : decode cX4_elements 107 = .ok (.getfield 52, 3) := by decide +kernel
theorem dX4_elements_110 : decode cX4_elements 110 = .ok (.bipush 25, 2) := by decide +kernel
theorem dX4_elements_112 : decode cX4_elements 112 = .ok (.if_icmp .ne 7, 3) := by decide +kernel
theorem dX4_elements_115 : decode cX4_elements 115 = .ok (.iconst 1, 1) := by decide +kernel
theorem dX4_elements_116 : decode cX4_elements 116 = .ok (.goto 4, 3) := by decide +kernel
theorem dX4_elements_119 : decode cX4_elements 119 = .ok (.iconst 0, 1) := by decide +kernel
theorem dX4_elements_120 : decode cX4_elements 120 = .ok (.istore 4, 2) := by decide +kernel
theorem dX4_elements_122 : decode cX4_elements 122 = .ok (.iload 4, 2) := by decide +kernel
theorem dX4_elements_124 : decode cX4_elements 124 = .ok (.ifCond .eq 10, 3) := by decide +kernel
theorem dX4_elements_127 : decode cX4_elements 127 = .ok (.aload_n 0, 1) := by decide +kernel
theorem dX4_elements_128 : decode cX4_elements 128 = .ok (.getfield 9, 3) := by decide +kernel
theorem dX4_elements_131 : decode cX4_elements 131 = .ok (.invokevirtual 57, 3) := by decide +kernel
theorem dX4_elements_134 : decode cX4_elements 134 = .ok (.iinc 5 1, 3) := by decide +kernel
theorem dX4_elements_137 : decode cX4_elements 137 = .ok (.goto (-118), 3) := by decide +kernel
theorem dX4_elements_140 : decode cX4_elements 140 = .ok (.aload_n 0, 1) := by decide +kernel
theorem dX4_elements_141 : decode cX4_elements 141 = .ok (.getfield 9, 3) := by decide +kernel
theorem dX4_elements_144 : decode cX4_elements 144 = .ok (.bipush 24, 2) := by decide +kernel
theorem dX4_elements_146 : decode cX4_elements 146 = .ok (.invokevirtual 168, 3) := by decide +kernel
theorem dX4_elements_149 : decode cX4_elements 149 = .ok (.return_, 1) := by decide +kernel
theorem dX4_startFunction_0 : decode cX4_startFunction 0 = .ok (.aload_n 0, 1) := by decide +kernel
theorem dX4_startFunction_1 : decode cX4_startFunction 1 = .ok (.getfield 15, 3) := by decide +kernel
theorem dX4_startFunction_4 : decode cX4_startFunction 4 = .ok (.getfield 128, 3) := by decide +kernel
theorem dX4_startFunction_7 : decode cX4_startFunction 7 = .ok (.ifCond .eq 19, 3) := by decide +kernel
theorem dX4_startFunction_10 : decode cX4_startFunction 10 = .ok (.aload_n 0, 1) := by decide +kernel
theorem dX4_startFunction_11 : decode cX4_startFunction 11 = .ok (.getfield 15, 3) := by decide +kernel
theorem dX4_startFunction_14 : decode cX4_startFunction 14 = .ok (.iload_n 1, 1) := by decide +kernel
theorem dX4_startFunction_15 : decode cX4_startFunction 15 = .ok (.iload_n 2, 1) := by decide +kernel
theorem dX4_startFunction_16 : decode cX4_startFunction 16 = .ok (.aload_n 0, 1) := by decide +kernel
theorem dX4_startFunction_17 : decode cX4_startFunction 17 = .ok (.getfield 113, 3) := by decide +kernel
theorem dX4_startFunction_20 : decode cX4_startFunction 20 = .ok (.invokevirtual 171, 3) := by decide +kernel
theorem dX4_startFunction_23 : decode cX4_startFunction 23 = .ok (.goto 55, 3) := by decide +kernel
theorem dX4_startFunction_26 : decode cX4_startFunction 26 = .ok (.aload_n 0, 1) := by decide +kernel
theorem dX4_startFunction_27 : decode cX4_startFunction 27 = .ok (.getfield 23, 3) := by decide +kernel
theorem dX4_startFunction_30 : decode cX4_startFunction 30 = .ok (.iload_n 2, 1) := by decide +kernel
theorem dX4_startFunction_31 : decode cX4_startFunction 31 = .ok (.iload_n 3, 1) := by decide +kernel
theorem dX4_startFunction_32 : decode cX4_startFunction 32 = .ok (.invokevirtual 174, 3) := by decide +kernel
theorem dX4_startFunction_35 : decode cX4_startFunction 35 = .ok (.aload_n 0, 1) := by decide +kernel
theorem dX4_startFunction_36 : decode cX4_startFunction 36 = .ok (.getfield 15, 3) := by decide +kernel
theorem dX4_startFunction_39 : decode cX4_startFunction 39 = .ok (.iload_n 1, 1) := by decide +kernel
theorem dX4_startFunction_40 : decode cX4_startFunction 40 = .ok (.iload_n 2, 1) := by decide +kernel
theorem dX4_startFunction_41 : decode cX4_startFunction 41 = .ok (.aload_n 0, 1) := by decide +kernel
theorem dX4_startFunction_42 : decode cX4_startFunction 42 = .ok (.getfield 113, 3) := by decide +kernel
theorem dX4_startFunction_45 : decode cX4_startFunction 45 = .ok (.invokevirtual 178, 3) := by decide +kernel
theorem dX4_startFunction_48 : decode cX4_startFunction 48 = .ok (.iload_n 1, 1) := by decide +kernel
theorem dX4_startFunction_49 : decode cX4_startFunction 49 = .ok (.aload_n 0, 1) := by decide +kernel
theorem dX4_startFunction_50 : decode cX4_startFunction 50 = .ok (.getfield 31, 3) := by decide +kernel
theorem dX4_startFunction_53 : decode cX4_startFunction 53 = .ok (.if_icmp .ne 25, 3) := by decide +kernel
theorem dX4_startFunction_56 : decode cX4_startFunction 56 = .ok (.aload_n 0, 1) := by decide +kernel
theorem dX4_startFunction_57 : decode cX4_startFunction 57 = .ok (.getfield 23, 3) := by decide +kernel
theorem dX4_startFunction_60 : decode cX4_startFunction 60 = .ok (.getfield 101, 3) := by decide +kernel
theorem dX4_startFunction_63 : decode cX4_startFunction 63 = .ok (.iconst (-1), 1) := by decide +kernel
theorem dX4_startFunction_64 : decode cX4_startFunction 64 = .ok (.if_icmp .ne 14, 3) := by decide +kernel
theorem dX4_startFunction_67 : decode cX4_startFunction 67 = .ok (.aload_n 0, 1) := by decide +kernel
theorem dX4_startFunction_68 : decode cX4_startFunction 68 = .ok (.getfield 23, 3) := by decide +kernel
theorem dX4_startFunction_71 : decode cX4_startFunction 71 = .ok (.aload_n 0, 1) := by decide +kernel
theorem dX4_startFunction_72 : decode cX4_startFunction 72 = .ok (.getfield 113, 3) := by decide +kernel
theorem dX4_startFunction_75 : decode cX4_startFunction 75 = .ok (.putfield 101, 3) := by decide +kernel
theorem dX4_startFunction_78 : decode cX4_startFunction 78 = .ok (.aload_n 0, 1) := by decide +kernel
theorem dX4_startFunction_79 : decode cX4_startFunction 79 = .ok (.getfield 23, 3) := by decide +kernel
theorem dX4_startFunction_82 : decode cX4_startFunction 82 = .ok (.aload_n 0, 1) := by decide +kernel
theorem dX4_startFunction_83 : decode cX4_startFunction 83 = .ok (.getfield 113, 3) := by decide +kernel
theorem dX4_startFunction_86 : decode cX4_startFunction 86 = .ok (.invokevirtual 181, 3) := by decide +kernel
theorem dX4_startFunction_89 : decode cX4_startFunction 89 = .ok (.ifCond .eq 22, 3) := by decide +kernel
theorem dX4_startFunction_92 : decode cX4_startFunction 92 = .ok (.aload_n 0, 1) := by decide +kernel
theorem dX4_startFunction_93 : decode cX4_startFunction 93 = .ok (.getfield 23, 3) := by decide +kernel
theorem dX4_startFunction_96 : decode cX4_startFunction 96 = .ok (.getfield 184, 3) := by decide +kernel
theorem dX4_startFunction_99 : decode cX4_startFunction 99 = .ok (.aload_n 0, 1) := by decide +kernel
theorem dX4_startFunction_100 : decode cX4_startFunction 100 = .ok (.getfield 113, 3) := by decide +kernel
theorem dX4_startFunction_103 : decode cX4_startFunction 103 = .ok (.aload_n 0, 1) := by decide +kernel
theorem dX4_startFunction_104 : decode cX4_startFunction 104 = .ok (.getfield 19, 3) := by decide +kernel
theorem dX4_startFunction_107 : decode cX4_startFunction 107 = .ok (.getfield 43, 3) := by decide +kernel
theorem dX4_startFunction_110 : decode cX4_startFunction 110 = .ok (.iastore, 1) := by decide +kernel
theorem dX4_startFunction_111 : decode cX4_startFunction 111 = .ok (.aload_n 0, 1) := by decide +kernel
theorem dX4_startFunction_112 : decode cX4_startFunction 112 = .ok (.getfield 15, 3) := by decide +kernel
theorem dX4_startFunction_115 : decode cX4_startFunction 115 = .ok (.iload_n 3, 1) := by decide +kernel
theorem dX4_startFunction_116 : decode cX4_startFunction 116 = .ok (.invokevirtual 188, 3) := by decide +kernel
theorem dX4_startFunction_119 : decode cX4_startFunction 119 = .ok (.return_, 1) := by decide +kernel
theorem dX4_endFunction_0 : decode cX4_endFunction 0 = .ok (.aload_n 0, 1) := by decide +kernel
theorem dX4_endFunction_1 : decode cX4_endFunction 1 = .ok (.getfield 19, 3) := by decide +kernel
theorem dX4_endFunction_4 : decode cX4_endFunction 4 = .ok (.bipush 66, 2) := by decide +kernel
theorem dX4_endFunction_6 : decode cX4_endFunction 6 = .ok (.iconst 0, 1) := by decide +kernel
theorem dX4_endFunction_7 : decode cX4_endFunction 7 = .ok (.invokevirtual 191, 3) := by decide +kernel
theorem dX4_endFunction_10 : decode cX4_endFunction 10 = .ok (.aload_n 0, 1) := by decide +kernel
theorem dX4_endFunction_11 : decode cX4_endFunction 11 = .ok (.getfield 19, 3) := by decide +kernel
theorem dX4_endFunction_14 : decode cX4_endFunction 14 = .ok (.bipush 15, 2) := by decide +kernel
theorem dX4_endFunction_16 : decode cX4_endFunction 16 = .ok (.invokevirtual 194, 3) := by decide +kernel
theorem dX4_endFunction_19 : decode cX4_endFunction 19 = .ok (.aload_n 0, 1) := by decide +kernel
theorem dX4_endFunction_20 : decode cX4_endFunction 20 = .ok (.getfield 15, 3) := by decide +kernel
theorem dX4_endFunction_23 : decode cX4_endFunction 23 = .ok (.getfield 128, 3) := by decide +kernel
theorem dX4_endFunction_26 : decode cX4_endFunction 26 = .ok (.ifCond .eq 36, 3) := by decide +kernel
theorem dX4_endFunction_29 : decode cX4_endFunction 29 = .ok (.aload_n 0, 1) := by decide +kernel
theorem dX4_endFunction_30 : decode cX4_endFunction 30 = .ok (.getfield 23, 3) := by decide +kernel
theorem dX4_endFunction_33 : decode cX4_endFunction 33 = .ok (.aload_n 0, 1) := by decide +kernel
theorem dX4_endFunction_34 : decode cX4_endFunction 34 = .ok (.getfield 113, 3) := by decide +kernel
theorem dX4_endFunction_37 : decode cX4_endFunction 37 = .ok (.invokevirtual 181, 3) := by decide +kernel
theorem dX4_endFunction_40 : decode cX4_endFunction 40 = .ok (.ifCond .eq 22, 3) := by decide +kernel
theorem dX4_endFunction_43 : decode cX4_endFunction 43 = .ok (.aload_n 0, 1) := by decide +kernel
theorem dX4_endFunction_44 : decode cX4_endFunction 44 = .ok (.getfield 23, 3) := by decide +kernel
theorem dX4_endFunction_47 : decode cX4_endFunction 47 = .ok (.getfield 197, 3) := by decide +kernel
theorem dX4_endFunction_50 : decode cX4_endFunction 50 = .ok (.aload_n 0, 1) := by decide +kernel
theorem dX4_endFunction_51 : decode cX4_endFunction 51 = .ok (.getfield 113, 3) := by decide +kernel
theorem dX4_endFunction_54 : decode cX4_endFunction 54 = .ok (.aload_n 0, 1) := by decide +kernel
theorem dX4_endFunction_55 : decode cX4_endFunction 55 = .ok (.getfield 15, 3) := by decide +kernel
theorem dX4_endFunction_58 : decode cX4_endFunction 58 = .ok (.invokevirtual 200, 3) := by decide +kernel
theorem dX4_endFunction_61 : decode cX4_endFunction 61 = .ok (.iastore, 1) := by decide +kernel
theorem dX4_endFunction_62 : decode cX4_endFunction 62 = .ok (.aload_n 0, 1) := by decide +kernel
theorem dX4_endFunction_63 : decode cX4_endFunction 63 = .ok (.getfield 15, 3) := by decide +kernel
theorem dX4_endFunction_66 : decode cX4_endFunction 66 = .ok (.invokevirtual 203, 3) := by decide +kernel
theorem dX4_endFunction_69 : decode cX4_endFunction 69 = .ok (.aload_n 0, 1) := by decide +kernel
theorem dX4_endFunction_70 : decode cX4_endFunction 70 = .ok (.dup, 1) := by decide +kernel
theorem dX4_endFunction_71 : decode cX4_endFunction 71 = .ok (.getfield 113, 3) := by decide +kernel
theorem dX4_endFunction_74 : decode cX4_endFunction 74 = .ok (.iconst 1, 1) := by decide +kernel
theorem dX4_endFunction_75 : decode cX4_endFunction 75 = .ok (.iadd, 1) := by decide +kernel
theorem dX4_endFunction_76 : decode cX4_endFunction 76 = .ok (.putfield 113, 3) := by decide +kernel
theorem dX4_endFunction_79 : decode cX4_endFunction 79 = .ok (.return_, 1) := by decide +kernel
theorem dX4_formals_0 : decode cX4_formals 0 = .ok (.aload_n 0, 1) := by decide +kernel
theorem dX4_formals_1 : decode cX4_formals 1 = .ok (.getfield 9, 3) := by decide +kernel
theorem dX4_formals_4 : decode cX4_formals 4 = .ok (.bipush 19, 2) := by decide +kernel
theorem dX4_formals_6 : decode cX4_formals 6 = .ok (.invokevirtual 161, 3) := by decide +kernel
theorem dX4_formals_9 : decode cX4_formals 9 = .ok (.ifCond .ne 4, 3) := by decide +kernel
theorem dX4_formals_12 : decode cX4_formals 12 = .ok (.return_, 1) := by decide +kernel
theorem dX4_formals_13 : decode cX4_formals 13 = .ok (.aload_n 0, 1) := by decide +kernel
theorem dX4_formals_14 : decode cX4_formals 14 = .ok (.getfield 9, 3) := by decide +kernel
theorem dX4_formals_17 : decode cX4_formals 17 = .ok (.getfield 52, 3) := by decide +kernel
theorem dX4_formals_20 : decode cX4_formals 20 = .ok (.bipush 20, 2) := by decide +kernel
theorem dX4_formals_22 : decode cX4_formals 22 = .ok (.if_icmp .eq 7, 3) := by decide +kernel
theorem dX4_formals_25 : decode cX4_formals 25 = .ok (.iconst 1, 1) := by decide +kernel
theorem dX4_formals_26 : decode cX4_formals 26 = .ok (.goto 4, 3) := by decide +kernel
theorem dX4_formals_29 : decode cX4_formals 29 = .ok (.iconst 0, 1) := by decide +kernel
theorem dX4_formals_30 : decode cX4_formals 30 = .ok (.istore_n 2, 1) := by decide +kernel
theorem dX4_formals_31 : decode cX4_formals 31 = .ok (.iconst 0, 1) := by decide +kernel
theorem dX4_formals_32 : decode cX4_formals 32 = .ok (.istore_n 3, 1) := by decide +kernel
theorem dX4_formals_33 : decode cX4_formals 33 = .ok (.iload_n 3, 1) := by decide +kernel
theorem dX4_formals_34 : decode cX4_formals 34 = .ok (.sipush 4001, 3) := by decide +kernel
theorem dX4_formals_37 : decode cX4_formals 37 = .ok (.if_icmp .ge 48, 3) := by decide +kernel
theorem dX4_formals_40 : decode cX4_formals 40 = .ok (.iload_n 2, 1) := by decide +kernel
theorem dX4_formals_41 : decode cX4_formals 41 = .ok (.ifCond .eq 44, 3) := by decide +kernel
theorem dX4_formals_44 : decode cX4_formals 44 = .ok (.aload_n 0, 1) := by decide +kernel
theorem dX4_formals_45 : decode cX4_formals 45 = .ok (.iload_n 3, 1) := by decide +kernel
theorem dX4_formals_46 : decode cX4_formals 46 = .ok (.iload_n 1, 1) := by decide +kernel
theorem dX4_formals_47 : decode cX4_formals 47 = .ok (.invokevirtual 206, 3) := by decide +kernel
theorem dX4_formals_50 : decode cX4_formals 50 = .ok (.aload_n 0, 1) := by decide +kernel
theorem dX4_formals_51 : decode cX4_formals 51 = .ok (.getfield 9, 3) := by decide +kernel
theorem dX4_formals_54 : decode cX4_formals 54 = .ok (.getfield 52, 3) := by decide +kernel
theorem dX4_formals_57 : decode cX4_formals 57 = .ok (.bipush 25, 2) := by decide +kernel
theorem dX4_formals_59 : decode cX4_formals 59 = .ok (.if_icmp .ne 7, 3) := by decide +kernel
theorem dX4_formals_62 : decode cX4_formals 62 = .ok (.iconst 1, 1) := by decide +kernel
theorem dX4_formals_63 : decode cX4_formals 63 = .ok (.goto 4, 3) := by decide +kernel
theorem dX4_formals_66 : decode cX4_formals 66 = .ok (.iconst 0, 1) := by decide +kernel
theorem dX4_formals_67 : decode cX4_formals 67 = .ok (.istore_n 2, 1) := by decide +kernel
theorem dX4_formals_68 : decode cX4_formals 68 = .ok (.iload_n 2, 1) := by decide +kernel
theorem dX4_formals_69 : decode cX4_formals 69 = .ok (.ifCond .eq 10, 3) := by decide +kernel
theorem dX4_formals_72 : decode cX4_formals 72 = .ok (.aload_n 0, 1) := by decide +kernel
theorem dX4_formals_73 : decode cX4_formals 73 = .ok (.getfield 9, 3) := by decide +kernel
theorem dX4_formals_76 : decode cX4_formals 76 = .ok (.invokevirtual 57, 3) := by decide +kernel
theorem dX4_formals_79 : decode cX4_formals 79 = .ok (.iinc 3 1, 3) := by decide +kernel
theorem dX4_formals_82 : decode cX4_formals 82 = .ok (.goto (-49), 3) := by decide +kernel
theorem dX4_formals_85 : decode cX4_formals 85 = .ok (.aload_n 0, 1) := by decide +kernel
theorem dX4_formals_86 : decode cX4_formals 86 = .ok (.getfield 9, 3) := by decide +kernel
theorem dX4_formals_89 : decode cX4_formals 89 = .ok (.bipush 20, 2) := by decide +kernel
theorem dX4_formals_91 : decode cX4_formals 91 = .ok (.invokevirtual 168, 3) := by decide +kernel
theorem dX4_formals_94 : decode cX4_formals 94 = .ok (.return_, 1) := by decide +kernel
theorem dX4_formal_0 : decode cX4_formal 0 = .ok (.aload_n 0, 1) := by decide +kernel
theorem dX4_formal_1 : decode cX4_formal 1 = .ok (.getfield 9, 3) := by decide +kernel
theorem dX4_formal_4 : decode cX4_formal 4 = .ok (.getfield 52, 3) := by decide +kernel
theorem dX4_formal_7 : decode cX4_formal 7 = .ok (.istore_n 3, 1) := by decide +kernel
theorem dX4_formal_8 : decode cX4_formal 8 = .ok (.iload_n 3, 1) := by decide +kernel
theorem dX4_formal_9 : decode cX4_formal 9 = .ok (.iconst 4, 1) := by decide +kernel
theorem dX4_formal_10 : decode cX4_formal 10 = .ok (.if_icmp .eq 17, 3) := by decide +kernel
theorem dX4_formal_13 : decode cX4_formal 13 = .ok (.iload_n 3, 1) := by decide +kernel
theorem dX4_formal_14 : decode cX4_formal 14 = .ok (.iconst 5, 1) := by decide +kernel
theorem dX4_formal_15 : decode cX4_formal 15 = .ok (.if_icmp .eq 12, 3) := by decide +kernel
theorem dX4_formal_18 : decode cX4_formal 18 = .ok (.aload_n 0, 1) := by decide +kernel
theorem dX4_formal_19 : decode cX4_formal 19 = .ok (.getfield 9, 3) := by decide +kernel
theorem dX4_formal_22 : decode cX4_formal 22 = .ok (.iconst 2, 1) := by decide +kernel
theorem dX4_formal_23 : decode cX4_formal 23 = .ok (.invokevirtual 98, 3) := by decide +kernel
theorem dX4_formal_26 : decode cX4_formal 26 = .ok (.return_, 1) := by decide +kernel
theorem dX4_formal_27 : decode cX4_formal 27 = .ok (.iload_n 2, 1) := by decide +kernel
theorem dX4_formal_28 : decode cX4_formal 28 = .ok (.ifCond .eq 19, 3) := by decide +kernel
theorem dX4_formal_31 : decode cX4_formal 31 = .ok (.aload_n 0, 1) := by decide +kernel
theorem dX4_formal_32 : decode cX4_formal 32 = .ok (.getfield 15, 3) := by decide +kernel
theorem dX4_formal_35 : decode cX4_formal 35 = .ok (.bipush 9, 2) := by decide +kernel
theorem dX4_formal_37 : decode cX4_formal 37 = .ok (.aload_n 0, 1) := by decide +kernel
theorem dX4_formal_38 : decode cX4_formal 38 = .ok (.getfield 9, 3) := by decide +kernel
theorem dX4_formal_41 : decode cX4_formal 41 = .ok (.getfield 67, 3) := by decide +kernel
theorem dX4_formal_44 : decode cX4_formal 44 = .ok (.invokevirtual 104, 3) := by decide +kernel
theorem dX4_formal_47 : decode cX4_formal 47 = .ok (.aload_n 0, 1) := by decide +kernel
theorem dX4_formal_48 : decode cX4_formal 48 = .ok (.getfield 9, 3) := by decide +kernel
theorem dX4_formal_51 : decode cX4_formal 51 = .ok (.invokevirtual 57, 3) := by decide +kernel
theorem dX4_formal_54 : decode cX4_formal 54 = .ok (.aload_n 0, 1) := by decide +kernel
theorem dX4_formal_55 : decode cX4_formal 55 = .ok (.getfield 9, 3) := by decide +kernel
theorem dX4_formal_58 : decode cX4_formal 58 = .ok (.getfield 64, 3) := by decide +kernel
theorem dX4_formal_61 : decode cX4_formal 61 = .ok (.istore 4, 2) := by decide +kernel
theorem dX4_formal_63 : decode cX4_formal 63 = .ok (.aload_n 0, 1) := by decide +kernel
theorem dX4_formal_64 : decode cX4_formal 64 = .ok (.getfield 9, 3) := by decide +kernel
theorem dX4_formal_67 : decode cX4_formal 67 = .ok (.getfield 67, 3) := by decide +kernel
theorem dX4_formal_70 : decode cX4_formal 70 = .ok (.istore 5, 2) := by decide +kernel
theorem dX4_formal_72 : decode cX4_formal 72 = .ok (.aload_n 0, 1) := by decide +kernel
theorem dX4_formal_73 : decode cX4_formal 73 = .ok (.getfield 9, 3) := by decide +kernel
theorem dX4_formal_76 : decode cX4_formal 76 = .ok (.iconst 2, 1) := by decide +kernel
theorem dX4_formal_77 : decode cX4_formal 77 = .ok (.invokevirtual 70, 3) := by decide +kernel
theorem dX4_formal_80 : decode cX4_formal 80 = .ok (.iconst 1, 1) := by decide +kernel
theorem dX4_formal_81 : decode cX4_formal 81 = .ok (.istore 6, 2) := by decide +kernel
theorem dX4_formal_83 : decode cX4_formal 83 = .ok (.aload_n 0, 1) := by decide +kernel
theorem dX4_formal_84 : decode cX4_formal 84 = .ok (.getfield 9, 3) := by decide +kernel
theorem dX4_formal_87 : decode cX4_formal 87 = .ok (.getfield 52, 3) := by decide +kernel
theorem dX4_formal_90 : decode cX4_formal 90 = .ok (.bipush 21, 2) := by decide +kernel
theorem dX4_formal_92 : decode cX4_formal 92 = .ok (.if_icmp .eq 8, 3) := by decide +kernel
theorem dX4_formal_95 : decode cX4_formal 95 = .ok (.iload_n 3, 1) := by decide +kernel
theorem dX4_formal_96 : decode cX4_formal 96 = .ok (.iconst 5, 1) := by decide +kernel
theorem dX4_formal_97 : decode cX4_formal 97 = .ok (.if_icmp .ne 36, 3) := by decide +kernel
theorem dX4_formal_100 : decode cX4_formal 100 = .ok (.iload_n 3, 1) := by decide +kernel
theorem dX4_formal_101 : decode cX4_formal 101 = .ok (.iconst 4, 1) := by decide +kernel
theorem dX4_formal_102 : decode cX4_formal 102 = .ok (.if_icmp .ne 7, 3) := by decide +kernel
theorem dX4_formal_105 : decode cX4_formal 105 = .ok (.iconst 2, 1) := by decide +kernel
theorem dX4_formal_106 : decode cX4_formal 106 = .ok (.goto 4, 3) := by decide +kernel
theorem dX4_formal_109 : decode cX4_formal 109 = .ok (.iconst 3, 1) := by decide +kernel
theorem dX4_formal_110 : decode cX4_formal 110 = .ok (.istore 6, 2) := by decide +kernel
theorem dX4_formal_112 : decode cX4_formal 112 = .ok (.aload_n 0, 1) := by decide +kernel
theorem dX4_formal_113 : decode cX4_formal 113 = .ok (.getfield 9, 3) := by decide +kernel
theorem dX4_formal_116 : decode cX4_formal 116 = .ok (.bipush 21, 2) := by decide +kernel
theorem dX4_formal_118 : decode cX4_formal 118 = .ok (.invokevirtual 161, 3) := by decide +kernel
theorem dX4_formal_121 : decode cX4_formal 121 = .ok (.ifCond .eq 12, 3) := by decide +kernel
theorem dX4_formal_124 : decode cX4_formal 124 = .ok (.aload_n 0, 1) := by decide +kernel
theorem dX4_formal_125 : decode cX4_formal 125 = .ok (.getfield 9, 3) := by decide +kernel
theorem dX4_formal_128 : decode cX4_formal 128 = .ok (.bipush 22, 2) := by decide +kernel
theorem dX4_formal_130 : decode cX4_formal 130 = .ok (.invokevirtual 168, 3) := by decide +kernel
theorem dX4_formal_133 : decode cX4_formal 133 = .ok (.aload_n 0, 1) := by decide +kernel
theorem dX4_formal_134 : decode cX4_formal 134 = .ok (.getfield 15, 3) := by decide +kernel
theorem dX4_formal_137 : decode cX4_formal 137 = .ok (.getfield 128, 3) := by decide +kernel
theorem dX4_formal_140 : decode cX4_formal 140 = .ok (.ifCond .ne 13, 3) := by decide +kernel
theorem dX4_formal_143 : decode cX4_formal 143 = .ok (.aload_n 0, 1) := by decide +kernel
theorem dX4_formal_144 : decode cX4_formal 144 = .ok (.getfield 23, 3) := by decide +kernel
theorem dX4_formal_147 : decode cX4_formal 147 = .ok (.iload 6, 2) := by decide +kernel
theorem dX4_formal_149 : decode cX4_formal 149 = .ok (.invokevirtual 209, 3) := by decide +kernel
theorem dX4_formal_152 : decode cX4_formal 152 = .ok (.return_, 1) := by decide +kernel
theorem dX4_formal_153 : decode cX4_formal 153 = .ok (.aload_n 0, 1) := by decide +kernel
theorem dX4_formal_154 : decode cX4_formal 154 = .ok (.getfield 15, 3) := by decide +kernel
theorem dX4_formal_157 : decode cX4_formal 157 = .ok (.iload 4, 2) := by decide +kernel
theorem dX4_formal_159 : decode cX4_formal 159 = .ok (.iload 5, 2) := by decide +kernel
theorem dX4_formal_161 : decode cX4_formal 161 = .ok (.iload 6, 2) := by decide +kernel
theorem dX4_formal_163 : decode cX4_formal 163 = .ok (.invokevirtual 212, 3) := by decide +kernel
theorem dX4_formal_166 : decode cX4_formal 166 = .ok (.iload_n 1, 1) := by decide +kernel
theorem dX4_formal_167 : decode cX4_formal 167 = .ok (.iconst 4, 1) := by decide +kernel
theorem dX4_formal_168 : decode cX4_formal 168 = .ok (.if_icmp .lt 14, 3) := by decide +kernel
theorem dX4_formal_171 : decode cX4_formal 171 = .ok (.aload_n 0, 1) := by decide +kernel
theorem dX4_formal_172 : decode cX4_formal 172 = .ok (.getfield 15, 3) := by decide +kernel
theorem dX4_formal_175 : decode cX4_formal 175 = .ok (.bipush 8, 2) := by decide +kernel
theorem dX4_formal_177 : decode cX4_formal 177 = .ok (.iload 5, 2) := by decide +kernel
theorem dX4_formal_179 : decode cX4_formal 179 = .ok (.invokevirtual 104, 3) := by decide +kernel
theorem dX4_formal_182 : decode cX4_formal 182 = .ok (.return_, 1) := by decide +kernel
theorem dX4_block_0 : decode cX4_block 0 = .ok (.aload_n 0, 1) := by decide +kernel
theorem dX4_block_1 : decode cX4_block 1 = .ok (.getfield 9, 3) := by decide +kernel
theorem dX4_block_4 : decode cX4_block 4 = .ok (.bipush 23, 2) := by decide +kernel
theorem dX4_block_6 : decode cX4_block 6 = .ok (.invokevirtual 161, 3) := by decide +kernel
theorem dX4_block_9 : decode cX4_block 9 = .ok (.ifCond .ne 4, 3) := by decide +kernel
theorem dX4_block_12 : decode cX4_block 12 = .ok (.return_, 1) := by decide +kernel
theorem dX4_block_13 : decode cX4_block 13 = .ok (.iconst 0, 1) := by decide +kernel
theorem dX4_block_14 : decode cX4_block 14 = .ok (.istore_n 1, 1) := by decide +kernel
theorem dX4_block_15 : decode cX4_block 15 = .ok (.iload_n 1, 1) := by decide +kernel
theorem dX4_block_16 : decode cX4_block 16 = .ok (.sipush 4001, 3) := by decide +kernel
theorem dX4_block_19 : decode cX4_block 19 = .ok (.if_icmp .ge 37, 3) := by decide +kernel
theorem dX4_block_22 : decode cX4_block 22 = .ok (.aload_n 0, 1) := by decide +kernel
theorem dX4_block_23 : decode cX4_block 23 = .ok (.getfield 9, 3) := by decide +kernel
theorem dX4_block_26 : decode cX4_block 26 = .ok (.getfield 52, 3) := by decide +kernel
theorem dX4_block_29 : decode cX4_block 29 = .ok (.bipush 24, 2) := by decide +kernel
theorem dX4_block_31 : decode cX4_block 31 = .ok (.if_icmp .eq 25, 3) := by decide +kernel
theorem dX4_block_34 : decode cX4_block 34 = .ok (.aload_n 0, 1) := by decide +kernel
theorem dX4_block_35 : decode cX4_block 35 = .ok (.getfield 9, 3) := by decide +kernel
theorem dX4_block_38 : decode cX4_block 38 = .ok (.getfield 52, 3) := by decide +kernel
theorem dX4_block_41 : decode cX4_block 41 = .ok (.bipush (-2), 2) := by decide +kernel
theorem dX4_block_43 : decode cX4_block 43 = .ok (.if_icmp .eq 13, 3) := by decide +kernel
theorem dX4_block_46 : decode cX4_block 46 = .ok (.aload_n 0, 1) := by decide +kernel
theorem dX4_block_47 : decode cX4_block 47 = .ok (.invokevirtual 215, 3) := by decide +kernel
theorem dX4_block_50 : decode cX4_block 50 = .ok (.iinc 1 1, 3) := by decide +kernel
theorem dX4_block_53 : decode cX4_block 53 = .ok (.goto (-38), 3) := by decide +kernel
theorem dX4_block_56 : decode cX4_block 56 = .ok (.aload_n 0, 1) := by decide +kernel
theorem dX4_block_57 : decode cX4_block 57 = .ok (.getfield 9, 3) := by decide +kernel
theorem dX4_block_60 : decode cX4_block 60 = .ok (.bipush 24, 2) := by decide +kernel
theorem dX4_block_62 : decode cX4_block 62 = .ok (.invokevirtual 168, 3) := by decide +kernel
theorem dX4_block_65 : decode cX4_block 65 = .ok (.return_, 1) := by decide +kernel
theorem dX4_inner_0 : decode cX4_inner 0 = .ok (.aload_n 0, 1) := by decide +kernel
theorem dX4_inner_1 : decode cX4_inner 1 = .ok (.getfield 15, 3) := by decide +kernel
theorem dX4_inner_4 : decode cX4_inner 4 = .ok (.invokevirtual 218, 3) := by decide +kernel
theorem dX4_inner_7 : decode cX4_inner 7 = .ok (.aload_n 0, 1) := by decide +kernel
theorem dX4_inner_8 : decode cX4_inner 8 = .ok (.invokevirtual 215, 3) := by decide +kernel
theorem dX4_inner_11 : decode cX4_inner 11 = .ok (.aload_n 0, 1) := by decide +kernel
theorem dX4_inner_12 : decode cX4_inner 12 = .ok (.getfield 15, 3) := by decide +kernel
theorem dX4_inner_15 : decode cX4_inner 15 = .ok (.invokevirtual 203, 3) := by decide +kernel
theorem dX4_inner_18 : decode cX4_inner 18 = .ok (.return_, 1) := by decide +kernel
theorem dX4_statement_0 : decode cX4_statement 0 = .ok (.aload_n 0, 1) := by decide +kernel
theorem dX4_statement_1 : decode cX4_statement 1 = .ok (.getfield 9, 3) := by decide +kernel
theorem dX4_statement_4 : decode cX4_statement 4 = .ok (.getfield 52, 3) := by decide +kernel
theorem dX4_statement_7 : decode cX4_statement 7 = .ok (.tableswitch 202 4 26 #[136, 136, 202, 202, 153, 202, 160, 167, 174, 181, 181, 188, 195, 202, 195, 202, 202, 202, 202, 105, 202, 202, 126], 105) := by decide +kernel
theorem dX4_statement_112 : decode cX4_statement 112 = .ok (.aload_n 0, 1) := by decide +kernel
theorem dX4_statement_113 : decode cX4_statement 113 = .ok (.getfield 15, 3) := by decide +kernel
theorem dX4_statement_116 : decode cX4_statement 116 = .ok (.invokevirtual 218, 3) := by decide +kernel
theorem dX4_statement_119 : decode cX4_statement 119 = .ok (.aload_n 0, 1) := by decide +kernel
theorem dX4_statement_120 : decode cX4_statement 120 = .ok (.invokevirtual 85, 3) := by decide +kernel
theorem dX4_statement_123 : decode cX4_statement 123 = .ok (.aload_n 0, 1) := by decide +kernel
theorem dX4_statement_124 : decode cX4_statement 124 = .ok (.getfield 15, 3) := by decide +kernel
theorem dX4_statement_127 : decode cX4_statement 127 = .ok (.invokevirtual 203, 3) := by decide +kernel
theorem dX4_statement_130 : decode cX4_statement 130 = .ok (.goto 92, 3) := by decide +kernel
theorem dX4_statement_133 : decode cX4_statement 133 = .ok (.aload_n 0, 1) := by decide +kernel
theorem dX4_statement_134 : decode cX4_statement 134 = .ok (.getfield 9, 3) := by decide +kernel
theorem dX4_statement_137 : decode cX4_statement 137 = .ok (.invokevirtual 57, 3) := by decide +kernel
theorem dX4_statement_140 : decode cX4_statement 140 = .ok (.goto 82, 3) := by decide +kernel
theorem dX4_statement_143 : decode cX4_statement 143 = .ok (.aload_n 0, 1) := by decide +kernel
theorem dX4_statement_144 : decode cX4_statement 144 = .ok (.iconst 0, 1) := by decide +kernel
theorem dX4_statement_145 : decode cX4_statement 145 = .ok (.invokevirtual 221, 3) := by decide +kernel
theorem dX4_statement_148 : decode cX4_statement 148 = .ok (.aload_n 0, 1) := by decide +kernel
theorem dX4_statement_149 : decode cX4_statement 149 = .ok (.getfield 9, 3) := by decide +kernel
theorem dX4_statement_152 : decode cX4_statement 152 = .ok (.bipush 26, 2) := by decide +kernel
theorem dX4_statement_154 : decode cX4_statement 154 = .ok (.invokevirtual 70, 3) := by decide +kernel
theorem dX4_statement_157 : decode cX4_statement 157 = .ok (.goto 65, 3) := by decide +kernel
theorem dX4_statement_160 : decode cX4_statement 160 = .ok (.aload_n 0, 1) := by decide +kernel
theorem dX4_statement_161 : decode cX4_statement 161 = .ok (.invokevirtual 224, 3) := by decide +kernel
theorem dX4_statement_164 : decode cX4_statement 164 = .ok (.goto 58, 3) := by decide +kernel
theorem dX4_statement_167 : decode cX4_statement 167 = .ok (.aload_n 0, 1) := by decide +kernel
theorem dX4_statement_168 : decode cX4_statement 168 = .ok (.invokevirtual 227, 3) := by decide +kernel
theorem dX4_statement_171 : decode cX4_statement 171 = .ok (.goto 51, 3) := by decide +kernel
theorem dX4_statement_174 : decode cX4_statement 174 = .ok (.aload_n 0, 1) := by decide +kernel
theorem dX4_statement_175 : decode cX4_statement 175 = .ok (.invokevirtual 230, 3) := by decide +kernel
theorem dX4_statement_178 : decode cX4_statement 178 = .ok (.goto 44, 3) := by decide +kernel
theorem dX4_statement_181 : decode cX4_statement 181 = .ok (.aload_n 0, 1) := by decide +kernel
theorem dX4_statement_182 : decode cX4_statement 182 = .ok (.invokevirtual 233, 3) := by decide +kernel
theorem dX4_statement_185 : decode cX4_statement 185 = .ok (.goto 37, 3) := by decide +kernel
theorem dX4_statement_188 : decode cX4_statement 188 = .ok (.aload_n 0, 1) := by decide +kernel
theorem dX4_statement_189 : decode cX4_statement 189 = .ok (.invokevirtual 236, 3) := by decide +kernel
theorem dX4_statement_192 : decode cX4_statement 192 = .ok (.goto 30, 3) := by decide +kernel
theorem dX4_statement_195 : decode cX4_statement 195 = .ok (.aload_n 0, 1) := by decide +kernel
theorem dX4_statement_196 : decode cX4_statement 196 = .ok (.invokevirtual 239, 3) := by decide +kernel
theorem dX4_statement_199 : decode cX4_statement 199 = .ok (.goto 23, 3) := by decide +kernel
theorem dX4_statement_202 : decode cX4_statement 202 = .ok (.aload_n 0, 1) := by decide +kernel
theorem dX4_statement_203 : decode cX4_statement 203 = .ok (.invokevirtual 242, 3) := by decide +kernel
theorem dX4_statement_206 : decode cX4_statement 206 = .ok (.goto 16, 3) := by decide +kernel
theorem dX4_statement_209 : decode cX4_statement 209 = .ok (.aload_n 0, 1) := by decide +kernel
theorem dX4_statement_210 : decode cX4_statement 210 = .ok (.invokevirtual 245, 3) := by decide +kernel
theorem dX4_statement_213 : decode cX4_statement 213 = .ok (.aload_n 0, 1) := by decide +kernel
theorem dX4_statement_214 : decode cX4_statement 214 = .ok (.getfield 9, 3) := by decide +kernel
theorem dX4_statement_217 : decode cX4_statement 217 = .ok (.bipush 26, 2) := by decide +kernel
theorem dX4_statement_219 : decode cX4_statement 219 = .ok (.invokevirtual 70, 3) := by decide +kernel
theorem dX4_statement_222 : decode cX4_statement 222 = .ok (.return_, 1) := by decide +kernel
theorem dX4_localTold_0 : decode cX4_localTold 0 = .ok (.aload_n 0, 1) := by decide +kernel
theorem dX4_localTold_1 : decode cX4_localTold 1 = .ok (.getfield 9, 3) := by decide +kernel
theorem dX4_localTold_4 : decode cX4_localTold 4 = .ok (.getfield 52, 3) := by decide +kernel
theorem dX4_localTold_7 : decode cX4_localTold 7 = .ok (.istore_n 2, 1) := by decide +kernel
theorem dX4_localTold_8 : decode cX4_localTold 8 = .ok (.aload_n 0, 1) := by decide +kernel
theorem dX4_localTold_9 : decode cX4_localTold 9 = .ok (.getfield 9, 3) := by decide +kernel
theorem dX4_localTold_12 : decode cX4_localTold 12 = .ok (.invokevirtual 57, 3) := by decide +kernel
theorem dX4_localTold_15 : decode cX4_localTold 15 = .ok (.aload_n 0, 1) := by decide +kernel
theorem dX4_localTold_16 : decode cX4_localTold 16 = .ok (.getfield 9, 3) := by decide +kernel
theorem dX4_localTold_19 : decode cX4_localTold 19 = .ok (.getfield 64, 3) := by decide +kernel
theorem dX4_localTold_22 : decode cX4_localTold 22 = .ok (.istore_n 3, 1) := by decide +kernel
theorem dX4_localTold_23 : decode cX4_localTold 23 = .ok (.aload_n 0, 1) := by decide +kernel
theorem dX4_localTold_24 : decode cX4_localTold 24 = .ok (.getfield 9, 3) := by decide +kernel
theorem dX4_localTold_27 : decode cX4_localTold 27 = .ok (.getfield 67, 3) := by decide +kernel
theorem dX4_localTold_30 : decode cX4_localTold 30 = .ok (.istore 4, 2) := by decide +kernel
theorem dX4_localTold_32 : decode cX4_localTold 32 = .ok (.aload_n 0, 1) := by decide +kernel
theorem dX4_localTold_33 : decode cX4_localTold 33 = .ok (.getfield 9, 3) := by decide +kernel
theorem dX4_localTold_36 : decode cX4_localTold 36 = .ok (.iconst 2, 1) := by decide +kernel
theorem dX4_localTold_37 : decode cX4_localTold 37 = .ok (.invokevirtual 70, 3) := by decide +kernel
theorem dX4_localTold_40 : decode cX4_localTold 40 = .ok (.iload_n 1, 1) := by decide +kernel
theorem dX4_localTold_41 : decode cX4_localTold 41 = .ok (.ifCond .eq 26, 3) := by decide +kernel
theorem dX4_localTold_44 : decode cX4_localTold 44 = .ok (.aload_n 0, 1) := by decide +kernel
theorem dX4_localTold_45 : decode cX4_localTold 45 = .ok (.getfield 9, 3) := by decide +kernel
theorem dX4_localTold_48 : decode cX4_localTold 48 = .ok (.getfield 52, 3) := by decide +kernel
theorem dX4_localTold_51 : decode cX4_localTold 51 = .ok (.bipush 29, 2) := by decide +kernel
theorem dX4_localTold_53 : decode cX4_localTold 53 = .ok (.if_icmp .eq 14, 3) := by decide +kernel
theorem dX4_localTold_56 : decode cX4_localTold 56 = .ok (.aload_n 0, 1) := by decide +kernel
theorem dX4_localTold_57 : decode cX4_localTold 57 = .ok (.getfield 9, 3) := by decide +kernel
theorem dX4_localTold_60 : decode cX4_localTold 60 = .ok (.iconst 2, 1) := by decide +kernel
theorem dX4_localTold_61 : decode cX4_localTold 61 = .ok (.invokevirtual 98, 3) := by decide +kernel
theorem dX4_localTold_64 : decode cX4_localTold 64 = .ok (.goto 104, 3) := by decide +kernel
theorem dX4_localTold_67 : decode cX4_localTold 67 = .ok (.aload_n 0, 1) := by decide +kernel
theorem dX4_localTold_68 : decode cX4_localTold 68 = .ok (.getfield 9, 3) := by decide +kernel
theorem dX4_localTold_71 : decode cX4_localTold 71 = .ok (.getfield 52, 3) := by decide +kernel
theorem dX4_localTold_74 : decode cX4_localTold 74 = .ok (.bipush 21, 2) := by decide +kernel
theorem dX4_localTold_76 : decode cX4_localTold 76 = .ok (.if_icmp .eq 8, 3) := by decide +kernel
theorem dX4_localTold_79 : decode cX4_localTold 79 = .ok (.iload_n 2, 1) := by decide +kernel
theorem dX4_localTold_80 : decode cX4_localTold 80 = .ok (.iconst 5, 1) := by decide +kernel
theorem dX4_localTold_81 : decode cX4_localTold 81 = .ok (.if_icmp .ne 34, 3) := by decide +kernel
theorem dX4_localTold_84 : decode cX4_localTold 84 = .ok (.aload_n 0, 1) := by decide +kernel
theorem dX4_localTold_85 : decode cX4_localTold 85 = .ok (.getfield 27, 3) := by decide +kernel
theorem dX4_localTold_88 : decode cX4_localTold 88 = .ok (.invokevirtual 152, 3) := by decide +kernel
theorem dX4_localTold_91 : decode cX4_localTold 91 = .ok (.istore 5, 2) := by decide +kernel
theorem dX4_localTold_93 : decode cX4_localTold 93 = .ok (.aload_n 0, 1) := by decide +kernel
theorem dX4_localTold_94 : decode cX4_localTold 94 = .ok (.iload_n 3, 1) := by decide +kernel
theorem dX4_localTold_95 : decode cX4_localTold 95 = .ok (.iload 4, 2) := by decide +kernel
theorem dX4_localTold_97 : decode cX4_localTold 97 = .ok (.iload_n 2, 1) := by decide +kernel
theorem dX4_localTold_98 : decode cX4_localTold 98 = .ok (.iconst 4, 1) := by decide +kernel
theorem dX4_localTold_99 : decode cX4_localTold 99 = .ok (.if_icmp .ne 7, 3) := by decide +kernel
theorem dX4_localTold_102 : decode cX4_localTold 102 = .ok (.iconst 2, 1) := by decide +kernel
theorem dX4_localTold_103 : decode cX4_localTold 103 = .ok (.goto 4, 3) := by decide +kernel
theorem dX4_localTold_106 : decode cX4_localTold 106 = .ok (.iconst 3, 1) := by decide +kernel
theorem dX4_localTold_107 : decode cX4_localTold 107 = .ok (.iload 5, 2) := by decide +kernel
theorem dX4_localTold_109 : decode cX4_localTold 109 = .ok (.invokevirtual 248, 3) := by decide +kernel
theorem dX4_localTold_112 : decode cX4_localTold 112 = .ok (.goto 56, 3) := by decide +kernel
theorem dX4_localTold_115 : decode cX4_localTold 115 = .ok (.aload_n 0, 1) := by decide +kernel
theorem dX4_localTold_116 : decode cX4_localTold 116 = .ok (.getfield 9, 3) := by decide +kernel
theorem dX4_localTold_119 : decode cX4_localTold 119 = .ok (.getfield 52, 3) := by decide +kernel
theorem dX4_localTold_122 : decode cX4_localTold 122 = .ok (.bipush 29, 2) := by decide +kernel
theorem dX4_localTold_124 : decode cX4_localTold 124 = .ok (.if_icmp .ne 27, 3) := by decide +kernel
theorem dX4_localTold_127 : decode cX4_localTold 127 = .ok (.aload_n 0, 1) := by decide +kernel
theorem dX4_localTold_128 : decode cX4_localTold 128 = .ok (.getfield 9, 3) := by decide +kernel
theorem dX4_localTold_131 : decode cX4_localTold 131 = .ok (.invokevirtual 57, 3) := by decide +kernel
theorem dX4_localTold_134 : decode cX4_localTold 134 = .ok (.aload_n 0, 1) := by decide +kernel
theorem dX4_localTold_135 : decode cX4_localTold 135 = .ok (.getfield 27, 3) := by decide +kernel
theorem dX4_localTold_138 : decode cX4_localTold 138 = .ok (.invokevirtual 252, 3) := by decide +kernel
theorem dX4_localTold_141 : decode cX4_localTold 141 = .ok (.aload_n 0, 1) := by decide +kernel
theorem dX4_localTold_142 : decode cX4_localTold 142 = .ok (.iload_n 3, 1) := by decide +kernel
theorem dX4_localTold_143 : decode cX4_localTold 143 = .ok (.iload 4, 2) := by decide +kernel
theorem dX4_localTold_145 : decode cX4_localTold 145 = .ok (.invokevirtual 255, 3) := by decide +kernel
theorem dX4_localTold_148 : decode cX4_localTold 148 = .ok (.goto 20, 3) := by decide +kernel
theorem dX4_localTold_151 : decode cX4_localTold 151 = .ok (.aload_n 0, 1) := by decide +kernel
theorem dX4_localTold_152 : decode cX4_localTold 152 = .ok (.getfield 19, 3) := by decide +kernel
theorem dX4_localTold_155 : decode cX4_localTold 155 = .ok (.bipush 66, 2) := by decide +kernel
theorem dX4_localTold_157 : decode cX4_localTold 157 = .ok (.iconst 0, 1) := by decide +kernel
theorem dX4_localTold_158 : decode cX4_localTold 158 = .ok (.invokevirtual 191, 3) := by decide +kernel
theorem dX4_localTold_161 : decode cX4_localTold 161 = .ok (.aload_n 0, 1) := by decide +kernel
theorem dX4_localTold_162 : decode cX4_localTold 162 = .ok (.iload_n 3, 1) := by decide +kernel
theorem dX4_localTold_163 : decode cX4_localTold 163 = .ok (.iload 4, 2) := by decide +kernel
theorem dX4_localTold_165 : decode cX4_localTold 165 = .ok (.invokevirtual 255, 3) := by decide +kernel
theorem dX4_localTold_168 : decode cX4_localTold 168 = .ok (.return_, 1) := by decide +kernel
theorem dX4_localArray_0 : decode cX4_localArray 0 = .ok (.iload_n 3, 1) := by decide +kernel
theorem dX4_localArray_1 : decode cX4_localArray 1 = .ok (.iload 4, 2) := by decide +kernel
theorem dX4_localArray_3 : decode cX4_localArray 3 = .ok (.invokestatic 155, 3) := by decide +kernel
theorem dX4_localArray_6 : decode cX4_localArray 6 = .ok (.istore 5, 2) := by decide +kernel
theorem dX4_localArray_8 : decode cX4_localArray 8 = .ok (.aload_n 0, 1) := by decide +kernel
theorem dX4_localArray_9 : decode cX4_localArray 9 = .ok (.getfield 15, 3) := by decide +kernel
theorem dX4_localArray_12 : decode cX4_localArray 12 = .ok (.iload 5, 2) := by decide +kernel
theorem dX4_localArray_14 : decode cX4_localArray 14 = .ok (.iload_n 2, 1) := by decide +kernel
theorem dX4_localArray_15 : decode cX4_localArray 15 = .ok (.invokevirtual 258, 3) := by decide +kernel
theorem dX4_localArray_18 : decode cX4_localArray 18 = .ok (.istore 6, 2) := by decide +kernel
theorem dX4_localArray_20 : decode cX4_localArray 20 = .ok (.aload_n 0, 1) := by decide +kernel
theorem dX4_localArray_21 : decode cX4_localArray 21 = .ok (.getfield 19, 3) := by decide +kernel
theorem dX4_localArray_24 : decode cX4_localArray 24 = .ok (.bipush 73, 2) := by decide +kernel
theorem dX4_localArray_26 : decode cX4_localArray 26 = .ok (.iload 6, 2) := by decide +kernel
theorem dX4_localArray_28 : decode cX4_localArray 28 = .ok (.invokevirtual 191, 3) := by decide +kernel
theorem dX4_localArray_31 : decode cX4_localArray 31 = .ok (.aload_n 0, 1) := by decide +kernel
theorem dX4_localArray_32 : decode cX4_localArray 32 = .ok (.getfield 19, 3) := by decide +kernel
theorem dX4_localArray_35 : decode cX4_localArray 35 = .ok (.iload 5, 2) := by decide +kernel
theorem dX4_localArray_37 : decode cX4_localArray 37 = .ok (.invokevirtual 194, 3) := by decide +kernel
theorem dX4_localArray_40 : decode cX4_localArray 40 = .ok (.aload_n 0, 1) := by decide +kernel
theorem dX4_localArray_41 : decode cX4_localArray 41 = .ok (.getfield 15, 3) := by decide +kernel
theorem dX4_localArray_44 : decode cX4_localArray 44 = .ok (.iload_n 1, 1) := by decide +kernel
theorem dX4_localArray_45 : decode cX4_localArray 45 = .ok (.iload_n 2, 1) := by decide +kernel
theorem dX4_localArray_46 : decode cX4_localArray 46 = .ok (.iload_n 3, 1) := by decide +kernel
theorem dX4_localArray_47 : decode cX4_localArray 47 = .ok (.iload 6, 2) := by decide +kernel
theorem dX4_localArray_49 : decode cX4_localArray 49 = .ok (.iload 4, 2) := by decide +kernel
theorem dX4_localArray_51 : decode cX4_localArray 51 = .ok (.invokevirtual 141, 3) := by decide +kernel
theorem dX4_localArray_54 : decode cX4_localArray 54 = .ok (.return_, 1) := by decide +kernel
theorem dX4_localInt_0 : decode cX4_localInt 0 = .ok (.aload_n 0, 1) := by decide +kernel
theorem dX4_localInt_1 : decode cX4_localInt 1 = .ok (.getfield 15, 3) := by decide +kernel
theorem dX4_localInt_4 : decode cX4_localInt 4 = .ok (.iconst 1, 1) := by decide +kernel
theorem dX4_localInt_5 : decode cX4_localInt 5 = .ok (.iload_n 2, 1) := by decide +kernel
theorem dX4_localInt_6 : decode cX4_localInt 6 = .ok (.invokevirtual 258, 3) := by decide +kernel
theorem dX4_localInt_9 : decode cX4_localInt 9 = .ok (.istore_n 3, 1) := by decide +kernel
theorem dX4_localInt_10 : decode cX4_localInt 10 = .ok (.aload_n 0, 1) := by decide +kernel
theorem dX4_localInt_11 : decode cX4_localInt 11 = .ok (.getfield 19, 3) := by decide +kernel
theorem dX4_localInt_14 : decode cX4_localInt 14 = .ok (.bipush 72, 2) := by decide +kernel
theorem dX4_localInt_16 : decode cX4_localInt 16 = .ok (.iload_n 3, 1) := by decide +kernel
theorem dX4_localInt_17 : decode cX4_localInt 17 = .ok (.invokevirtual 191, 3) := by decide +kernel
theorem dX4_localInt_20 : decode cX4_localInt 20 = .ok (.aload_n 0, 1) := by decide +kernel
theorem dX4_localInt_21 : decode cX4_localInt 21 = .ok (.getfield 15, 3) := by decide +kernel
theorem dX4_localInt_24 : decode cX4_localInt 24 = .ok (.iload_n 1, 1) := by decide +kernel
theorem dX4_localInt_25 : decode cX4_localInt 25 = .ok (.iload_n 2, 1) := by decide +kernel
theorem dX4_localInt_26 : decode cX4_localInt 26 = .ok (.iconst 1, 1) := by decide +kernel
theorem dX4_localInt_27 : decode cX4_localInt 27 = .ok (.iload_n 3, 1) := by decide +kernel
theorem dX4_localInt_28 : decode cX4_localInt 28 = .ok (.iconst 0, 1) := by decide +kernel
theorem dX4_localInt_29 : decode cX4_localInt 29 = .ok (.invokevirtual 141, 3) := by decide +kernel
theorem dX4_localInt_32 : decode cX4_localInt 32 = .ok (.return_, 1) := by decide +kernel
theorem dX4_condition_0 : decode cX4_condition 0 = .ok (.aload_n 0, 1) := by decide +kernel
theorem dX4_condition_1 : decode cX4_condition 1 = .ok (.getfield 9, 3) := by decide +kernel
theorem dX4_condition_4 : decode cX4_condition 4 = .ok (.bipush 19, 2) := by decide +kernel
theorem dX4_condition_6 : decode cX4_condition 6 = .ok (.invokevirtual 161, 3) := by decide +kernel
theorem dX4_condition_9 : decode cX4_condition 9 = .ok (.ifCond .eq 19, 3) := by decide +kernel
theorem dX4_condition_12 : decode cX4_condition 12 = .ok (.aload_n 0, 1) := by decide +kernel
theorem dX4_condition_13 : decode cX4_condition 13 = .ok (.getfield 27, 3) := by decide +kernel
theorem dX4_condition_16 : decode cX4_condition 16 = .ok (.invokevirtual 252, 3) := by decide +kernel
theorem dX4_condition_19 : decode cX4_condition 19 = .ok (.aload_n 0, 1) := by decide +kernel
theorem dX4_condition_20 : decode cX4_condition 20 = .ok (.getfield 9, 3) := by decide +kernel
theorem dX4_condition_23 : decode cX4_condition 23 = .ok (.bipush 20, 2) := by decide +kernel
theorem dX4_condition_25 : decode cX4_condition 25 = .ok (.invokevirtual 168, 3) := by decide +kernel
theorem dX4_condition_28 : decode cX4_condition 28 = .ok (.return_, 1) := by decide +kernel
theorem dX4_ifStatement_0 : decode cX4_ifStatement 0 = .ok (.aload_n 0, 1) := by decide +kernel
theorem dX4_ifStatement_1 : decode cX4_ifStatement 1 = .ok (.getfield 9, 3) := by decide +kernel
theorem dX4_ifStatement_4 : decode cX4_ifStatement 4 = .ok (.bipush 8, 2) := by decide +kernel
theorem dX4_ifStatement_6 : decode cX4_ifStatement 6 = .ok (.invokevirtual 161, 3) := by decide +kernel
theorem dX4_ifStatement_9 : decode cX4_ifStatement 9 = .ok (.ifCond .ne 4, 3) := by decide +kernel
theorem dX4_ifStatement_12 : decode cX4_ifStatement 12 = .ok (.return_, 1) := by decide +kernel
theorem dX4_ifStatement_13 : decode cX4_ifStatement 13 = .ok (.aload_n 0, 1) := by decide +kernel
theorem dX4_ifStatement_14 : decode cX4_ifStatement 14 = .ok (.invokevirtual 261, 3) := by decide +kernel
theorem dX4_ifStatement_17 : decode cX4_ifStatement 17 = .ok (.aload_n 0, 1) := by decide +kernel
theorem dX4_ifStatement_18 : decode cX4_ifStatement 18 = .ok (.getfield 19, 3) := by decide +kernel
theorem dX4_ifStatement_21 : decode cX4_ifStatement 21 = .ok (.bipush 86, 2) := by decide +kernel
theorem dX4_ifStatement_23 : decode cX4_ifStatement 23 = .ok (.iconst (-1), 1) := by decide +kernel
theorem dX4_ifStatement_24 : decode cX4_ifStatement 24 = .ok (.invokevirtual 264, 3) := by decide +kernel
theorem dX4_ifStatement_27 : decode cX4_ifStatement 27 = .ok (.istore_n 1, 1) := by decide +kernel
theorem dX4_ifStatement_28 : decode cX4_ifStatement 28 = .ok (.aload_n 0, 1) := by decide +kernel
theorem dX4_ifStatement_29 : decode cX4_ifStatement 29 = .ok (.invokevirtual 267, 3) := by decide +kernel
theorem dX4_ifStatement_32 : decode cX4_ifStatement 32 = .ok (.aload_n 0, 1) := by decide +kernel
theorem dX4_ifStatement_33 : decode cX4_ifStatement 33 = .ok (.getfield 9, 3) := by decide +kernel
theorem dX4_ifStatement_36 : decode cX4_ifStatement 36 = .ok (.getfield 52, 3) := by decide +kernel
theorem dX4_ifStatement_39 : decode cX4_ifStatement 39 = .ok (.bipush 9, 2) := by decide +kernel
theorem dX4_ifStatement_41 : decode cX4_ifStatement 41 = .ok (.if_icmp .ne 58, 3) := by decide +kernel
theorem dX4_ifStatement_44 : decode cX4_ifStatement 44 = .ok (.aload_n 0, 1) := by decide +kernel
theorem dX4_ifStatement_45 : decode cX4_ifStatement 45 = .ok (.getfield 9, 3) := by decide +kernel
theorem dX4_ifStatement_48 : decode cX4_ifStatement 48 = .ok (.invokevirtual 57, 3) := by decide +kernel
theorem dX4_ifStatement_51 : decode cX4_ifStatement 51 = .ok (.aload_n 0, 1) := by decide +kernel
theorem dX4_ifStatement_52 : decode cX4_ifStatement 52 = .ok (.getfield 19, 3) := by decide +kernel
theorem dX4_ifStatement_55 : decode cX4_ifStatement 55 = .ok (.bipush 84, 2) := by decide +kernel
theorem dX4_ifStatement_57 : decode cX4_ifStatement 57 = .ok (.iconst (-1), 1) := by decide +kernel
theorem dX4_ifStatement_58 : decode cX4_ifStatement 58 = .ok (.invokevirtual 264, 3) := by decide +kernel
theorem dX4_ifStatement_61 : decode cX4_ifStatement 61 = .ok (.istore_n 2, 1) := by decide +kernel
theorem dX4_ifStatement_62 : decode cX4_ifStatement 62 = .ok (.aload_n 0, 1) := by decide +kernel
theorem dX4_ifStatement_63 : decode cX4_ifStatement 63 = .ok (.getfield 19, 3) := by decide +kernel
theorem dX4_ifStatement_66 : decode cX4_ifStatement 66 = .ok (.iload_n 1, 1) := by decide +kernel
theorem dX4_ifStatement_67 : decode cX4_ifStatement 67 = .ok (.aload_n 0, 1) := by decide +kernel
theorem dX4_ifStatement_68 : decode cX4_ifStatement 68 = .ok (.getfield 19, 3) := by decide +kernel
theorem dX4_ifStatement_71 : decode cX4_ifStatement 71 = .ok (.getfield 43, 3) := by decide +kernel
theorem dX4_ifStatement_74 : decode cX4_ifStatement 74 = .ok (.invokevirtual 270, 3) := by decide +kernel
theorem dX4_ifStatement_77 : decode cX4_ifStatement 77 = .ok (.aload_n 0, 1) := by decide +kernel
theorem dX4_ifStatement_78 : decode cX4_ifStatement 78 = .ok (.invokevirtual 267, 3) := by decide +kernel
theorem dX4_ifStatement_81 : decode cX4_ifStatement 81 = .ok (.aload_n 0, 1) := by decide +kernel
theorem dX4_ifStatement_82 : decode cX4_ifStatement 82 = .ok (.getfield 19, 3) := by decide +kernel
theorem dX4_ifStatement_85 : decode cX4_ifStatement 85 = .ok (.iload_n 2, 1) := by decide +kernel
theorem dX4_ifStatement_86 : decode cX4_ifStatement 86 = .ok (.aload_n 0, 1) := by decide +kernel
theorem dX4_ifStatement_87 : decode cX4_ifStatement 87 = .ok (.getfield 19, 3) := by decide +kernel
theorem dX4_ifStatement_90 : decode cX4_ifStatement 90 = .ok (.getfield 43, 3) := by decide +kernel
theorem dX4_ifStatement_93 : decode cX4_ifStatement 93 = .ok (.invokevirtual 270, 3) := by decide +kernel
theorem dX4_ifStatement_96 : decode cX4_ifStatement 96 = .ok (.goto 18, 3) := by decide +kernel
theorem dX4_ifStatement_99 : decode cX4_ifStatement 99 = .ok (.aload_n 0, 1) := by decide +kernel
theorem dX4_ifStatement_100 : decode cX4_ifStatement 100 = .ok (.getfield 19, 3) := by decide +kernel
theorem dX4_ifStatement_103 : decode cX4_ifStatement 103 = .ok (.iload_n 1, 1) := by decide +kernel
theorem dX4_ifStatement_104 : decode cX4_ifStatement 104 = .ok (.aload_n 0, 1) := by decide +kernel
theorem dX4_ifStatement_105 : decode cX4_ifStatement 105 = .ok (.getfield 19, 3) := by decide +kernel
theorem dX4_ifStatement_108 : decode cX4_ifStatement 108 = .ok (.getfield 43, 3) := by decide +kernel
theorem dX4_ifStatement_111 : decode cX4_ifStatement 111 = .ok (.invokevirtual 270, 3) := by decide +kernel
theorem dX4_ifStatement_114 : decode cX4_ifStatement 114 = .ok (.aload_n 0, 1) := by decide +kernel
theorem dX4_ifStatement_115 : decode cX4_ifStatement 115 = .ok (.getfield 9, 3) := by decide +kernel
theorem dX4_ifStatement_118 : decode cX4_ifStatement 118 = .ok (.invokevirtual 273, 3) := by decide +kernel
theorem dX4_ifStatement_121 : decode cX4_ifStatement 121 = .ok (.return_, 1) := by decide +kernel
theorem dX4_loopBody_0 : decode cX4_loopBody 0 = .ok (.aload_n 0, 1) := by decide +kernel
theorem dX4_loopBody_1 : decode cX4_loopBody 1 = .ok (.iconst (-1), 1) := by decide +kernel
theorem dX4_loopBody_2 : decode cX4_loopBody 2 = .ok (.putfield 119, 3) := by decide +kernel
theorem dX4_loopBody_5 : decode cX4_loopBody 5 = .ok (.aload_n 0, 1) := by decide +kernel
theorem dX4_loopBody_6 : decode cX4_loopBody 6 = .ok (.iconst (-1), 1) := by decide +kernel
theorem dX4_loopBody_7 : decode cX4_loopBody 7 = .ok (.putfield 122, 3) := by decide +kernel
theorem dX4_loopBody_10 : decode cX4_loopBody 10 = .ok (.aload_n 0, 1) := by decide +kernel
theorem dX4_loopBody_11 : decode cX4_loopBody 11 = .ok (.dup, 1) := by decide +kernel
theorem dX4_loopBody_12 : decode cX4_loopBody 12 = .ok (.getfield 116, 3) := by decide +kernel
theorem dX4_loopBody_15 : decode cX4_loopBody 15 = .ok (.iconst 1, 1) := by decide +kernel
theorem dX4_loopBody_16 : decode cX4_loopBody 16 = .ok (.iadd, 1) := by decide +kernel
theorem dX4_loopBody_17 : decode cX4_loopBody 17 = .ok (.putfield 116, 3) := by decide +kernel
theorem dX4_loopBody_20 : decode cX4_loopBody 20 = .ok (.aload_n 0, 1) := by decide +kernel
theorem dX4_loopBody_21 : decode cX4_loopBody 21 = .ok (.getfield 19, 3) := by decide +kernel
theorem dX4_loopBody_24 : decode cX4_loopBody 24 = .ok (.bipush 89, 2) := by decide +kernel
theorem dX4_loopBody_26 : decode cX4_loopBody 26 = .ok (.invokevirtual 194, 3) := by decide +kernel
theorem dX4_loopBody_29 : decode cX4_loopBody 29 = .ok (.aload_n 0, 1) := by decide +kernel
theorem dX4_loopBody_30 : decode cX4_loopBody 30 = .ok (.invokevirtual 267, 3) := by decide +kernel
theorem dX4_loopBody_33 : decode cX4_loopBody 33 = .ok (.aload_n 0, 1) := by decide +kernel
theorem dX4_loopBody_34 : decode cX4_loopBody 34 = .ok (.dup, 1) := by decide +kernel
theorem dX4_loopBody_35 : decode cX4_loopBody 35 = .ok (.getfield 116, 3) := by decide +kernel
theorem dX4_loopBody_38 : decode cX4_loopBody 38 = .ok (.iconst 1, 1) := by decide +kernel
theorem dX4_loopBody_39 : decode cX4_loopBody 39 = .ok (.isub, 1) := by decide +kernel
theorem dX4_loopBody_40 : decode cX4_loopBody 40 = .ok (.putfield 116, 3) := by decide +kernel
theorem dX4_loopBody_43 : decode cX4_loopBody 43 = .ok (.return_, 1) := by decide +kernel
theorem dX4_whileStatement_0 : decode cX4_whileStatement 0 = .ok (.aload_n 0, 1) := by decide +kernel
theorem dX4_whileStatement_1 : decode cX4_whileStatement 1 = .ok (.getfield 9, 3) := by decide +kernel
theorem dX4_whileStatement_4 : decode cX4_whileStatement 4 = .ok (.bipush 10, 2) := by decide +kernel
theorem dX4_whileStatement_6 : decode cX4_whileStatement 6 = .ok (.invokevirtual 161, 3) := by decide +kernel
theorem dX4_whileStatement_9 : decode cX4_whileStatement 9 = .ok (.ifCond .ne 4, 3) := by decide +kernel
theorem dX4_whileStatement_12 : decode cX4_whileStatement 12 = .ok (.return_, 1) := by decide +kernel
theorem dX4_whileStatement_13 : decode cX4_whileStatement 13 = .ok (.aload_n 0, 1) := by decide +kernel
theorem dX4_whileStatement_14 : decode cX4_whileStatement 14 = .ok (.getfield 119, 3) := by decide +kernel
theorem dX4_whileStatement_17 : decode cX4_whileStatement 17 = .ok (.istore_n 1, 1) := by decide +kernel
theorem dX4_whileStatement_18 : decode cX4_whileStatement 18 = .ok (.aload_n 0, 1) := by decide +kernel
theorem dX4_whileStatement_19 : decode cX4_whileStatement 19 = .ok (.getfield 122, 3) := by decide +kernel
theorem dX4_whileStatement_22 : decode cX4_whileStatement 22 = .ok (.istore_n 2, 1) := by decide +kernel
theorem dX4_whileStatement_23 : decode cX4_whileStatement 23 = .ok (.aload_n 0, 1) := by decide +kernel
theorem dX4_whileStatement_24 : decode cX4_whileStatement 24 = .ok (.getfield 19, 3) := by decide +kernel
theorem dX4_whileStatement_27 : decode cX4_whileStatement 27 = .ok (.getfield 43, 3) := by decide +kernel
theorem dX4_whileStatement_30 : decode cX4_whileStatement 30 = .ok (.istore_n 3, 1) := by decide +kernel
theorem dX4_whileStatement_31 : decode cX4_whileStatement 31 = .ok (.aload_n 0, 1) := by decide +kernel
theorem dX4_whileStatement_32 : decode cX4_whileStatement 32 = .ok (.invokevirtual 261, 3) := by decide +kernel
theorem dX4_whileStatement_35 : decode cX4_whileStatement 35 = .ok (.aload_n 0, 1) := by decide +kernel
theorem dX4_whileStatement_36 : decode cX4_whileStatement 36 = .ok (.getfield 19, 3) := by decide +kernel
theorem dX4_whileStatement_39 : decode cX4_whileStatement 39 = .ok (.bipush 86, 2) := by decide +kernel
theorem dX4_whileStatement_41 : decode cX4_whileStatement 41 = .ok (.iconst (-1), 1) := by decide +kernel
theorem dX4_whileStatement_42 : decode cX4_whileStatement 42 = .ok (.invokevirtual 264, 3) := by decide +kernel
theorem dX4_whileStatement_45 : decode cX4_whileStatement 45 = .ok (.istore 4, 2) := by decide +kernel
theorem dX4_whileStatement_47 : decode cX4_whileStatement 47 = .ok (.aload_n 0, 1) := by decide +kernel
theorem dX4_whileStatement_48 : decode cX4_whileStatement 48 = .ok (.invokevirtual 276, 3) := by decide +kernel
theorem dX4_whileStatement_51 : decode cX4_whileStatement 51 = .ok (.aload_n 0, 1) := by decide +kernel
theorem dX4_whileStatement_52 : decode cX4_whileStatement 52 = .ok (.getfield 19, 3) := by decide +kernel
theorem dX4_whileStatement_55 : decode cX4_whileStatement 55 = .ok (.bipush 84, 2) := by decide +kernel
theorem dX4_whileStatement_57 : decode cX4_whileStatement 57 = .ok (.iload_n 3, 1) := by decide +kernel
theorem dX4_whileStatement_58 : decode cX4_whileStatement 58 = .ok (.invokevirtual 191, 3) := by decide +kernel
theorem dX4_whileStatement_61 : decode cX4_whileStatement 61 = .ok (.aload_n 0, 1) := by decide +kernel
theorem dX4_whileStatement_62 : decode cX4_whileStatement 62 = .ok (.getfield 19, 3) := by decide +kernel
theorem dX4_whileStatement_65 : decode cX4_whileStatement 65 = .ok (.aload_n 0, 1) := by decide +kernel
theorem dX4_whileStatement_66 : decode cX4_whileStatement 66 = .ok (.getfield 122, 3) := by decide +kernel
theorem dX4_whileStatement_69 : decode cX4_whileStatement 69 = .ok (.iload_n 3, 1) := by decide +kernel
theorem dX4_whileStatement_70 : decode cX4_whileStatement 70 = .ok (.invokevirtual 270, 3) := by decide +kernel
theorem dX4_whileStatement_73 : decode cX4_whileStatement 73 = .ok (.aload_n 0, 1) := by decide +kernel
theorem dX4_whileStatement_74 : decode cX4_whileStatement 74 = .ok (.getfield 19, 3) := by decide +kernel
theorem dX4_whileStatement_77 : decode cX4_whileStatement 77 = .ok (.iload 4, 2) := by decide +kernel
theorem dX4_whileStatement_79 : decode cX4_whileStatement 79 = .ok (.aload_n 0, 1) := by decide +kernel
theorem dX4_whileStatement_80 : decode cX4_whileStatement 80 = .ok (.getfield 19, 3) := by decide +kernel
theorem dX4_whileStatement_83 : decode cX4_whileStatement 83 = .ok (.getfield 43, 3) := by decide +kernel
theorem dX4_whileStatement_86 : decode cX4_whileStatement 86 = .ok (.invokevirtual 270, 3) := by decide +kernel
theorem dX4_whileStatement_89 : decode cX4_whileStatement 89 = .ok (.aload_n 0, 1) := by decide +kernel
theorem dX4_whileStatement_90 : decode cX4_whileStatement 90 = .ok (.getfield 19, 3) := by decide +kernel
theorem dX4_whileStatement_93 : decode cX4_whileStatement 93 = .ok (.aload_n 0, 1) := by decide +kernel
theorem dX4_whileStatement_94 : decode cX4_whileStatement 94 = .ok (.getfield 119, 3) := by decide +kernel
theorem dX4_whileStatement_97 : decode cX4_whileStatement 97 = .ok (.aload_n 0, 1) := by decide +kernel
theorem dX4_whileStatement_98 : decode cX4_whileStatement 98 = .ok (.getfield 19, 3) := by decide +kernel
theorem dX4_whileStatement_101 : decode cX4_whileStatement 101 = .ok (.getfield 43, 3) := by decide +kernel
theorem dX4_whileStatement_104 : decode cX4_whileStatement 104 = .ok (.invokevirtual 270, 3) := by decide +kernel
theorem dX4_whileStatement_107 : decode cX4_whileStatement 107 = .ok (.aload_n 0, 1) := by decide +kernel
theorem dX4_whileStatement_108 : decode cX4_whileStatement 108 = .ok (.iload_n 1, 1) := by decide +kernel
theorem dX4_whileStatement_109 : decode cX4_whileStatement 109 = .ok (.putfield 119, 3) := by decide +kernel
theorem dX4_whileStatement_112 : decode cX4_whileStatement 112 = .ok (.aload_n 0, 1) := by decide +kernel
theorem dX4_whileStatement_113 : decode cX4_whileStatement 113 = .ok (.iload_n 2, 1) := by decide +kernel
theorem dX4_whileStatement_114 : decode cX4_whileStatement 114 = .ok (.putfield 122, 3) := by decide +kernel
theorem dX4_whileStatement_117 : decode cX4_whileStatement 117 = .ok (.aload_n 0, 1) := by decide +kernel
theorem dX4_whileStatement_118 : decode cX4_whileStatement 118 = .ok (.getfield 9, 3) := by decide +kernel
theorem dX4_whileStatement_121 : decode cX4_whileStatement 121 = .ok (.invokevirtual 273, 3) := by decide +kernel
theorem dX4_whileStatement_124 : decode cX4_whileStatement 124 = .ok (.return_, 1) := by decide +kernel
theorem dX4_doStatement_0 : decode cX4_doStatement 0 = .ok (.aload_n 0, 1) := by decide +kernel
theorem dX4_doStatement_1 : decode cX4_doStatement 1 = .ok (.getfield 9, 3) := by decide +kernel
theorem dX4_doStatement_4 : decode cX4_doStatement 4 = .ok (.bipush 11, 2) := by decide +kernel
theorem dX4_doStatement_6 : decode cX4_doStatement 6 = .ok (.invokevirtual 161, 3) := by decide +kernel
theorem dX4_doStatement_9 : decode cX4_doStatement 9 = .ok (.ifCond .ne 4, 3) := by decide +kernel
theorem dX4_doStatement_12 : decode cX4_doStatement 12 = .ok (.return_, 1) := by decide +kernel
theorem dX4_doStatement_13 : decode cX4_doStatement 13 = .ok (.aload_n 0, 1) := by decide +kernel
theorem dX4_doStatement_14 : decode cX4_doStatement 14 = .ok (.getfield 119, 3) := by decide +kernel
theorem dX4_doStatement_17 : decode cX4_doStatement 17 = .ok (.istore_n 1, 1) := by decide +kernel
theorem dX4_doStatement_18 : decode cX4_doStatement 18 = .ok (.aload_n 0, 1) := by decide +kernel
theorem dX4_doStatement_19 : decode cX4_doStatement 19 = .ok (.getfield 122, 3) := by decide +kernel
theorem dX4_doStatement_22 : decode cX4_doStatement 22 = .ok (.istore_n 2, 1) := by decide +kernel
theorem dX4_doStatement_23 : decode cX4_doStatement 23 = .ok (.aload_n 0, 1) := by decide +kernel
theorem dX4_doStatement_24 : decode cX4_doStatement 24 = .ok (.getfield 19, 3) := by decide +kernel
theorem dX4_doStatement_27 : decode cX4_doStatement 27 = .ok (.getfield 43, 3) := by decide +kernel
theorem dX4_doStatement_30 : decode cX4_doStatement 30 = .ok (.istore_n 3, 1) := by decide +kernel
theorem dX4_doStatement_31 : decode cX4_doStatement 31 = .ok (.aload_n 0, 1) := by decide +kernel
theorem dX4_doStatement_32 : decode cX4_doStatement 32 = .ok (.invokevirtual 276, 3) := by decide +kernel
theorem dX4_doStatement_35 : decode cX4_doStatement 35 = .ok (.aload_n 0, 1) := by decide +kernel
theorem dX4_doStatement_36 : decode cX4_doStatement 36 = .ok (.getfield 19, 3) := by decide +kernel
theorem dX4_doStatement_39 : decode cX4_doStatement 39 = .ok (.aload_n 0, 1) := by decide +kernel
theorem dX4_doStatement_40 : decode cX4_doStatement 40 = .ok (.getfield 122, 3) := by decide +kernel
theorem dX4_doStatement_43 : decode cX4_doStatement 43 = .ok (.aload_n 0, 1) := by decide +kernel
theorem dX4_doStatement_44 : decode cX4_doStatement 44 = .ok (.getfield 19, 3) := by decide +kernel
theorem dX4_doStatement_47 : decode cX4_doStatement 47 = .ok (.getfield 43, 3) := by decide +kernel
theorem dX4_doStatement_50 : decode cX4_doStatement 50 = .ok (.invokevirtual 270, 3) := by decide +kernel
theorem dX4_doStatement_53 : decode cX4_doStatement 53 = .ok (.aload_n 0, 1) := by decide +kernel
theorem dX4_doStatement_54 : decode cX4_doStatement 54 = .ok (.getfield 9, 3) := by decide +kernel
theorem dX4_doStatement_57 : decode cX4_doStatement 57 = .ok (.bipush 10, 2) := by decide +kernel
theorem dX4_doStatement_59 : decode cX4_doStatement 59 = .ok (.invokevirtual 70, 3) := by decide +kernel
theorem dX4_doStatement_62 : decode cX4_doStatement 62 = .ok (.aload_n 0, 1) := by decide +kernel
theorem dX4_doStatement_63 : decode cX4_doStatement 63 = .ok (.invokevirtual 261, 3) := by decide +kernel
theorem dX4_doStatement_66 : decode cX4_doStatement 66 = .ok (.aload_n 0, 1) := by decide +kernel
theorem dX4_doStatement_67 : decode cX4_doStatement 67 = .ok (.getfield 9, 3) := by decide +kernel
theorem dX4_doStatement_70 : decode cX4_doStatement 70 = .ok (.bipush 26, 2) := by decide +kernel
theorem dX4_doStatement_72 : decode cX4_doStatement 72 = .ok (.invokevirtual 70, 3) := by decide +kernel
theorem dX4_doStatement_75 : decode cX4_doStatement 75 = .ok (.aload_n 0, 1) := by decide +kernel
theorem dX4_doStatement_76 : decode cX4_doStatement 76 = .ok (.getfield 19, 3) := by decide +kernel
theorem dX4_doStatement_79 : decode cX4_doStatement 79 = .ok (.bipush 85, 2) := by decide +kernel
theorem dX4_doStatement_81 : decode cX4_doStatement 81 = .ok (.iload_n 3, 1) := by decide +kernel
theorem dX4_doStatement_82 : decode cX4_doStatement 82 = .ok (.invokevirtual 191, 3) := by decide +kernel
theorem dX4_doStatement_85 : decode cX4_doStatement 85 = .ok (.aload_n 0, 1) := by decide +kernel
theorem dX4_doStatement_86 : decode cX4_doStatement 86 = .ok (.getfield 19, 3) := by decide +kernel
theorem dX4_doStatement_89 : decode cX4_doStatement 89 = .ok (.aload_n 0, 1) := by decide +kernel
theorem dX4_doStatement_90 : decode cX4_doStatement 90 = .ok (.getfield 119, 3) := by decide +kernel
theorem dX4_doStatement_93 : decode cX4_doStatement 93 = .ok (.aload_n 0, 1) := by decide +kernel
theorem dX4_doStatement_94 : decode cX4_doStatement 94 = .ok (.getfield 19, 3) := by decide +kernel
theorem dX4_doStatement_97 : decode cX4_doStatement 97 = .ok (.getfield 43, 3) := by decide +kernel
theorem dX4_doStatement_100 : decode cX4_doStatement 100 = .ok (.invokevirtual 270, 3) := by decide +kernel
theorem dX4_doStatement_103 : decode cX4_doStatement 103 = .ok (.aload_n 0, 1) := by decide +kernel
theorem dX4_doStatement_104 : decode cX4_doStatement 104 = .ok (.iload_n 1, 1) := by decide +kernel
theorem dX4_doStatement_105 : decode cX4_doStatement 105 = .ok (.putfield 119, 3) := by decide +kernel
theorem dX4_doStatement_108 : decode cX4_doStatement 108 = .ok (.aload_n 0, 1) := by decide +kernel
theorem dX4_doStatement_109 : decode cX4_doStatement 109 = .ok (.iload_n 2, 1) := by decide +kernel
theorem dX4_doStatement_110 : decode cX4_doStatement 110 = .ok (.putfield 122, 3) := by decide +kernel
theorem dX4_doStatement_113 : decode cX4_doStatement 113 = .ok (.aload_n 0, 1) := by decide +kernel
theorem dX4_doStatement_114 : decode cX4_doStatement 114 = .ok (.getfield 9, 3) := by decide +kernel
theorem dX4_doStatement_117 : decode cX4_doStatement 117 = .ok (.invokevirtual 273, 3) := by decide +kernel
theorem dX4_doStatement_120 : decode cX4_doStatement 120 = .ok (.return_, 1) := by decide +kernel
theorem dX4_forStatement_0 : decode cX4_forStatement 0 = .ok (.aload_n 0, 1) := by decide +kernel
theorem dX4_forStatement_1 : decode cX4_forStatement 1 = .ok (.getfield 9, 3) := by decide +kernel
theorem dX4_forStatement_4 : decode cX4_forStatement 4 = .ok (.bipush 12, 2) := by decide +kernel
theorem dX4_forStatement_6 : decode cX4_forStatement 6 = .ok (.invokevirtual 161, 3) := by decide +kernel
theorem dX4_forStatement_9 : decode cX4_forStatement 9 = .ok (.ifCond .ne 4, 3) := by decide +kernel
theorem dX4_forStatement_12 : decode cX4_forStatement 12 = .ok (.return_, 1) := by decide +kernel
theorem dX4_forStatement_13 : decode cX4_forStatement 13 = .ok (.aload_n 0, 1) := by decide +kernel
theorem dX4_forStatement_14 : decode cX4_forStatement 14 = .ok (.getfield 119, 3) := by decide +kernel
theorem dX4_forStatement_17 : decode cX4_forStatement 17 = .ok (.istore_n 1, 1) := by decide +kernel
theorem dX4_forStatement_18 : decode cX4_forStatement 18 = .ok (.aload_n 0, 1) := by decide +kernel
theorem dX4_forStatement_19 : decode cX4_forStatement 19 = .ok (.getfield 122, 3) := by decide +kernel
theorem dX4_forStatement_22 : decode cX4_forStatement 22 = .ok (.istore_n 2, 1) := by decide +kernel
theorem dX4_forStatement_23 : decode cX4_forStatement 23 = .ok (.aload_n 0, 1) := by decide +kernel
theorem dX4_forStatement_24 : decode cX4_forStatement 24 = .ok (.getfield 15, 3) := by decide +kernel
theorem dX4_forStatement_27 : decode cX4_forStatement 27 = .ok (.invokevirtual 218, 3) := by decide +kernel
theorem dX4_forStatement_30 : decode cX4_forStatement 30 = .ok (.aload_n 0, 1) := by decide +kernel
theorem dX4_forStatement_31 : decode cX4_forStatement 31 = .ok (.getfield 9, 3) := by decide +kernel
theorem dX4_forStatement_34 : decode cX4_forStatement 34 = .ok (.bipush 19, 2) := by decide +kernel
theorem dX4_forStatement_36 : decode cX4_forStatement 36 = .ok (.invokevirtual 161, 3) := by decide +kernel
theorem dX4_forStatement_39 : decode cX4_forStatement 39 = .ok (.istore_n 3, 1) := by decide +kernel
theorem dX4_forStatement_40 : decode cX4_forStatement 40 = .ok (.iload_n 3, 1) := by decide +kernel
theorem dX4_forStatement_41 : decode cX4_forStatement 41 = .ok (.ifCond .eq 22, 3) := by decide +kernel
theorem dX4_forStatement_44 : decode cX4_forStatement 44 = .ok (.aload_n 0, 1) := by decide +kernel
theorem dX4_forStatement_45 : decode cX4_forStatement 45 = .ok (.getfield 9, 3) := by decide +kernel
theorem dX4_forStatement_48 : decode cX4_forStatement 48 = .ok (.getfield 52, 3) := by decide +kernel
theorem dX4_forStatement_51 : decode cX4_forStatement 51 = .ok (.iconst 4, 1) := by decide +kernel
theorem dX4_forStatement_52 : decode cX4_forStatement 52 = .ok (.if_icmp .ne 11, 3) := by decide +kernel
theorem dX4_forStatement_55 : decode cX4_forStatement 55 = .ok (.aload_n 0, 1) := by decide +kernel
theorem dX4_forStatement_56 : decode cX4_forStatement 56 = .ok (.iconst 1, 1) := by decide +kernel
theorem dX4_forStatement_57 : decode cX4_forStatement 57 = .ok (.invokevirtual 221, 3) := by decide +kernel
theorem dX4_forStatement_60 : decode cX4_forStatement 60 = .ok (.goto 23, 3) := by decide +kernel
theorem dX4_forStatement_63 : decode cX4_forStatement 63 = .ok (.iload_n 3, 1) := by decide +kernel
theorem dX4_forStatement_64 : decode cX4_forStatement 64 = .ok (.ifCond .eq 19, 3) := by decide +kernel
theorem dX4_forStatement_67 : decode cX4_forStatement 67 = .ok (.aload_n 0, 1) := by decide +kernel
theorem dX4_forStatement_68 : decode cX4_forStatement 68 = .ok (.getfield 9, 3) := by decide +kernel
theorem dX4_forStatement_71 : decode cX4_forStatement 71 = .ok (.getfield 52, 3) := by decide +kernel
theorem dX4_forStatement_74 : decode cX4_forStatement 74 = .ok (.bipush 26, 2) := by decide +kernel
theorem dX4_forStatement_76 : decode cX4_forStatement 76 = .ok (.if_icmp .eq 7, 3) := by decide +kernel
theorem dX4_forStatement_79 : decode cX4_forStatement 79 = .ok (.aload_n 0, 1) := by decide +kernel
theorem dX4_forStatement_80 : decode cX4_forStatement 80 = .ok (.invokevirtual 245, 3) := by decide +kernel
theorem dX4_forStatement_83 : decode cX4_forStatement 83 = .ok (.aload_n 0, 1) := by decide +kernel
theorem dX4_forStatement_84 : decode cX4_forStatement 84 = .ok (.getfield 9, 3) := by decide +kernel
theorem dX4_forStatement_87 : decode cX4_forStatement 87 = .ok (.bipush 26, 2) := by decide +kernel
theorem dX4_forStatement_89 : decode cX4_forStatement 89 = .ok (.invokevirtual 70, 3) := by decide +kernel
theorem dX4_forStatement_92 : decode cX4_forStatement 92 = .ok (.aload_n 0, 1) := by decide +kernel
theorem dX4_forStatement_93 : decode cX4_forStatement 93 = .ok (.getfield 19, 3) := by decide +kernel
theorem dX4_forStatement_96 : decode cX4_forStatement 96 = .ok (.getfield 43, 3) := by decide +kernel
theorem dX4_forStatement_99 : decode cX4_forStatement 99 = .ok (.istore 4, 2) := by decide +kernel
theorem dX4_forStatement_101 : decode cX4_forStatement 101 = .ok (.iconst (-1), 1) := by decide +kernel
theorem dX4_forStatement_102 : decode cX4_forStatement 102 = .ok (.istore 5, 2) := by decide +kernel
theorem dX4_forStatement_104 : decode cX4_forStatement 104 = .ok (.aload_n 0, 1) := by decide +kernel
theorem dX4_forStatement_105 : decode cX4_forStatement 105 = .ok (.getfield 9, 3) := by decide +kernel
theorem dX4_forStatement_108 : decode cX4_forStatement 108 = .ok (.getfield 52, 3) := by decide +kernel
theorem dX4_forStatement_111 : decode cX4_forStatement 111 = .ok (.bipush 26, 2) := by decide +kernel
theorem dX4_forStatement_113 : decode cX4_forStatement 113 = .ok (.if_icmp .eq 22, 3) := by decide +kernel
theorem dX4_forStatement_116 : decode cX4_forStatement 116 = .ok (.aload_n 0, 1) := by decide +kernel
theorem dX4_forStatement_117 : decode cX4_forStatement 117 = .ok (.getfield 27, 3) := by decide +kernel
theorem dX4_forStatement_120 : decode cX4_forStatement 120 = .ok (.invokevirtual 252, 3) := by decide +kernel
theorem dX4_forStatement_123 : decode cX4_forStatement 123 = .ok (.aload_n 0, 1) := by decide +kernel
theorem dX4_forStatement_124 : decode cX4_forStatement 124 = .ok (.getfield 19, 3) := by decide +kernel
theorem dX4_forStatement_127 : decode cX4_forStatement 127 = .ok (.bipush 86, 2) := by decide +kernel
theorem dX4_forStatement_129 : decode cX4_forStatement 129 = .ok (.iconst (-1), 1) := by decide +kernel
theorem dX4_forStatement_130 : decode cX4_forStatement 130 = .ok (.invokevirtual 264, 3) := by decide +kernel
theorem dX4_forStatement_133 : decode cX4_forStatement 133 = .ok (.istore 5, 2) := by decide +kernel
theorem dX4_forStatement_135 : decode cX4_forStatement 135 = .ok (.aload_n 0, 1) := by decide +kernel
theorem dX4_forStatement_136 : decode cX4_forStatement 136 = .ok (.getfield 9, 3) := by decide +kernel
theorem dX4_forStatement_139 : decode cX4_forStatement 139 = .ok (.bipush 26, 2) := by decide +kernel
theorem dX4_forStatement_141 : decode cX4_forStatement 141 = .ok (.invokevirtual 70, 3) := by decide +kernel
theorem dX4_forStatement_144 : decode cX4_forStatement 144 = .ok (.aload_n 0, 1) := by decide +kernel
theorem dX4_forStatement_145 : decode cX4_forStatement 145 = .ok (.getfield 19, 3) := by decide +kernel
theorem dX4_forStatement_148 : decode cX4_forStatement 148 = .ok (.bipush 84, 2) := by decide +kernel
theorem dX4_forStatement_150 : decode cX4_forStatement 150 = .ok (.iconst (-1), 1) := by decide +kernel
theorem dX4_forStatement_151 : decode cX4_forStatement 151 = .ok (.invokevirtual 264, 3) := by decide +kernel
theorem dX4_forStatement_154 : decode cX4_forStatement 154 = .ok (.istore 6, 2) := by decide +kernel
theorem dX4_forStatement_156 : decode cX4_forStatement 156 = .ok (.aload_n 0, 1) := by decide +kernel
theorem dX4_forStatement_157 : decode cX4_forStatement 157 = .ok (.getfield 19, 3) := by decide +kernel
theorem dX4_forStatement_160 : decode cX4_forStatement 160 = .ok (.getfield 43, 3) := by decide +kernel
theorem dX4_forStatement_163 : decode cX4_forStatement 163 = .ok (.istore 7, 2) := by decide +kernel
theorem dX4_forStatement_165 : decode cX4_forStatement 165 = .ok (.aload_n 0, 1) := by decide +kernel
theorem dX4_forStatement_166 : decode cX4_forStatement 166 = .ok (.getfield 9, 3) := by decide +kernel
theorem dX4_forStatement_169 : decode cX4_forStatement 169 = .ok (.getfield 52, 3) := by decide +kernel
theorem dX4_forStatement_172 : decode cX4_forStatement 172 = .ok (.bipush 20, 2) := by decide +kernel
theorem dX4_forStatement_174 : decode cX4_forStatement 174 = .ok (.if_icmp .eq 7, 3) := by decide +kernel
theorem dX4_forStatement_177 : decode cX4_forStatement 177 = .ok (.aload_n 0, 1) := by decide +kernel
theorem dX4_forStatement_178 : decode cX4_forStatement 178 = .ok (.invokevirtual 245, 3) := by decide +kernel
theorem dX4_forStatement_181 : decode cX4_forStatement 181 = .ok (.aload_n 0, 1) := by decide +kernel
theorem dX4_forStatement_182 : decode cX4_forStatement 182 = .ok (.getfield 19, 3) := by decide +kernel
theorem dX4_forStatement_185 : decode cX4_forStatement 185 = .ok (.bipush 84, 2) := by decide +kernel
theorem dX4_forStatement_187 : decode cX4_forStatement 187 = .ok (.iload 4, 2) := by decide +kernel
theorem dX4_forStatement_189 : decode cX4_forStatement 189 = .ok (.invokevirtual 191, 3) := by decide +kernel
theorem dX4_forStatement_192 : decode cX4_forStatement 192 = .ok (.aload_n 0, 1) := by decide +kernel
theorem dX4_forStatement_193 : decode cX4_forStatement 193 = .ok (.getfield 9, 3) := by decide +kernel
theorem dX4_forStatement_196 : decode cX4_forStatement 196 = .ok (.bipush 20, 2) := by decide +kernel
theorem dX4_forStatement_198 : decode cX4_forStatement 198 = .ok (.invokevirtual 168, 3) := by decide +kernel
theorem dX4_forStatement_201 : decode cX4_forStatement 201 = .ok (.aload_n 0, 1) := by decide +kernel
theorem dX4_forStatement_202 : decode cX4_forStatement 202 = .ok (.getfield 19, 3) := by decide +kernel
theorem dX4_forStatement_205 : decode cX4_forStatement 205 = .ok (.iload 6, 2) := by decide +kernel
theorem dX4_forStatement_207 : decode cX4_forStatement 207 = .ok (.aload_n 0, 1) := by decide +kernel
theorem dX4_forStatement_208 : decode cX4_forStatement 208 = .ok (.getfield 19, 3) := by decide +kernel
theorem dX4_forStatement_211 : decode cX4_forStatement 211 = .ok (.getfield 43, 3) := by decide +kernel
theorem dX4_forStatement_214 : decode cX4_forStatement 214 = .ok (.invokevirtual 270, 3) := by decide +kernel
theorem dX4_forStatement_217 : decode cX4_forStatement 217 = .ok (.aload_n 0, 1) := by decide +kernel
theorem dX4_forStatement_218 : decode cX4_forStatement 218 = .ok (.invokevirtual 276, 3) := by decide +kernel
theorem dX4_forStatement_221 : decode cX4_forStatement 221 = .ok (.aload_n 0, 1) := by decide +kernel
theorem dX4_forStatement_222 : decode cX4_forStatement 222 = .ok (.getfield 19, 3) := by decide +kernel
theorem dX4_forStatement_225 : decode cX4_forStatement 225 = .ok (.bipush 84, 2) := by decide +kernel
theorem dX4_forStatement_227 : decode cX4_forStatement 227 = .ok (.iload 7, 2) := by decide +kernel
theorem dX4_forStatement_229 : decode cX4_forStatement 229 = .ok (.invokevirtual 191, 3) := by decide +kernel
theorem dX4_forStatement_232 : decode cX4_forStatement 232 = .ok (.aload_n 0, 1) := by decide +kernel
theorem dX4_forStatement_233 : decode cX4_forStatement 233 = .ok (.getfield 19, 3) := by decide +kernel
theorem dX4_forStatement_236 : decode cX4_forStatement 236 = .ok (.aload_n 0, 1) := by decide +kernel
theorem dX4_forStatement_237 : decode cX4_forStatement 237 = .ok (.getfield 122, 3) := by decide +kernel
theorem dX4_forStatement_240 : decode cX4_forStatement 240 = .ok (.iload 7, 2) := by decide +kernel
theorem dX4_forStatement_242 : decode cX4_forStatement 242 = .ok (.invokevirtual 270, 3) := by decide +kernel
theorem dX4_forStatement_245 : decode cX4_forStatement 245 = .ok (.aload_n 0, 1) := by decide +kernel
theorem dX4_forStatement_246 : decode cX4_forStatement 246 = .ok (.getfield 19, 3) := by decide +kernel
theorem dX4_forStatement_249 : decode cX4_forStatement 249 = .ok (.iload 5, 2) := by decide +kernel
theorem dX4_forStatement_251 : decode cX4_forStatement 251 = .ok (.aload_n 0, 1) := by decide +kernel
theorem dX4_forStatement_252 : decode cX4_forStatement 252 = .ok (.getfield 19, 3) := by decide +kernel
theorem dX4_forStatement_255 : decode cX4_forStatement 255 = .ok (.getfield 43, 3) := by decide +kernel
theorem dX4_forStatement_258 : decode cX4_forStatement 258 = .ok (.invokevirtual 270, 3) := by decide +kernel
theorem dX4_forStatement_261 : decode cX4_forStatement 261 = .ok (.aload_n 0, 1) := by decide +kernel
theorem dX4_forStatement_262 : decode cX4_forStatement 262 = .ok (.getfield 19, 3) := by decide +kernel
theorem dX4_forStatement_265 : decode cX4_forStatement 265 = .ok (.aload_n 0, 1) := by decide +kernel
theorem dX4_forStatement_266 : decode cX4_forStatement 266 = .ok (.getfield 119, 3) := by decide +kernel
theorem dX4_forStatement_269 : decode cX4_forStatement 269 = .ok (.aload_n 0, 1) := by decide +kernel
theorem dX4_forStatement_270 : decode cX4_forStatement 270 = .ok (.getfield 19, 3) := by decide +kernel
theorem dX4_forStatement_273 : decode cX4_forStatement 273 = .ok (.getfield 43, 3) := by decide +kernel
theorem dX4_forStatement_276 : decode cX4_forStatement 276 = .ok (.invokevirtual 270, 3) := by decide +kernel
theorem dX4_forStatement_279 : decode cX4_forStatement 279 = .ok (.aload_n 0, 1) := by decide +kernel
theorem dX4_forStatement_280 : decode cX4_forStatement 280 = .ok (.getfield 15, 3) := by decide +kernel
theorem dX4_forStatement_283 : decode cX4_forStatement 283 = .ok (.invokevirtual 203, 3) := by decide +kernel
theorem dX4_forStatement_286 : decode cX4_forStatement 286 = .ok (.aload_n 0, 1) := by decide +kernel
theorem dX4_forStatement_287 : decode cX4_forStatement 287 = .ok (.iload_n 1, 1) := by decide +kernel
theorem dX4_forStatement_288 : decode cX4_forStatement 288 = .ok (.putfield 119, 3) := by decide +kernel
theorem dX4_forStatement_291 : decode cX4_forStatement 291 = .ok (.aload_n 0, 1) := by decide +kernel
theorem dX4_forStatement_292 : decode cX4_forStatement 292 = .ok (.iload_n 2, 1) := by decide +kernel
theorem dX4_forStatement_293 : decode cX4_forStatement 293 = .ok (.putfield 122, 3) := by decide +kernel
theorem dX4_forStatement_296 : decode cX4_forStatement 296 = .ok (.aload_n 0, 1) := by decide +kernel
theorem dX4_forStatement_297 : decode cX4_forStatement 297 = .ok (.getfield 9, 3) := by decide +kernel
theorem dX4_forStatement_300 : decode cX4_forStatement 300 = .ok (.invokevirtual 273, 3) := by decide +kernel
theorem dX4_forStatement_303 : decode cX4_forStatement 303 = .ok (.return_, 1) := by decide +kernel
theorem dX4_leap_0 : decode cX4_leap 0 = .ok (.aload_n 0, 1) := by decide +kernel
theorem dX4_leap_1 : decode cX4_leap 1 = .ok (.getfield 116, 3) := by decide +kernel
theorem dX4_leap_4 : decode cX4_leap 4 = .ok (.ifCond .ne 19, 3) := by decide +kernel
theorem dX4_leap_7 : decode cX4_leap 7 = .ok (.aload_n 0, 1) := by decide +kernel
theorem dX4_leap_8 : decode cX4_leap 8 = .ok (.getfield 15, 3) := by decide +kernel
theorem dX4_leap_11 : decode cX4_leap 11 = .ok (.bipush 6, 2) := by decide +kernel
theorem dX4_leap_13 : decode cX4_leap 13 = .ok (.aload_n 0, 1) := by decide +kernel
theorem dX4_leap_14 : decode cX4_leap 14 = .ok (.getfield 9, 3) := by decide +kernel
theorem dX4_leap_17 : decode cX4_leap 17 = .ok (.getfield 67, 3) := by decide +kernel
theorem dX4_leap_20 : decode cX4_leap 20 = .ok (.invokevirtual 104, 3) := by decide +kernel
theorem dX4_leap_23 : decode cX4_leap 23 = .ok (.aload_n 0, 1) := by decide +kernel
theorem dX4_leap_24 : decode cX4_leap 24 = .ok (.getfield 9, 3) := by decide +kernel
theorem dX4_leap_27 : decode cX4_leap 27 = .ok (.getfield 52, 3) := by decide +kernel
theorem dX4_leap_30 : decode cX4_leap 30 = .ok (.bipush 13, 2) := by decide +kernel
theorem dX4_leap_32 : decode cX4_leap 32 = .ok (.if_icmp .ne 23, 3) := by decide +kernel
theorem dX4_leap_35 : decode cX4_leap 35 = .ok (.aload_n 0, 1) := by decide +kernel
theorem dX4_leap_36 : decode cX4_leap 36 = .ok (.aload_n 0, 1) := by decide +kernel
theorem dX4_leap_37 : decode cX4_leap 37 = .ok (.getfield 19, 3) := by decide +kernel
theorem dX4_leap_40 : decode cX4_leap 40 = .ok (.bipush 84, 2) := by decide +kernel
theorem dX4_leap_42 : decode cX4_leap 42 = .ok (.aload_n 0, 1) := by decide +kernel
theorem dX4_leap_43 : decode cX4_leap 43 = .ok (.getfield 119, 3) := by decide +kernel
theorem dX4_leap_46 : decode cX4_leap 46 = .ok (.invokevirtual 264, 3) := by decide +kernel
theorem dX4_leap_49 : decode cX4_leap 49 = .ok (.putfield 119, 3) := by decide +kernel
theorem dX4_leap_52 : decode cX4_leap 52 = .ok (.goto 20, 3) := by decide +kernel
theorem dX4_leap_55 : decode cX4_leap 55 = .ok (.aload_n 0, 1) := by decide +kernel
theorem dX4_leap_56 : decode cX4_leap 56 = .ok (.aload_n 0, 1) := by decide +kernel
theorem dX4_leap_57 : decode cX4_leap 57 = .ok (.getfield 19, 3) := by decide +kernel
theorem dX4_leap_60 : decode cX4_leap 60 = .ok (.bipush 84, 2) := by decide +kernel
theorem dX4_leap_62 : decode cX4_leap 62 = .ok (.aload_n 0, 1) := by decide +kernel
theorem dX4_leap_63 : decode cX4_leap 63 = .ok (.getfield 122, 3) := by decide +kernel
theorem dX4_leap_66 : decode cX4_leap 66 = .ok (.invokevirtual 264, 3) := by decide +kernel
theorem dX4_leap_69 : decode cX4_leap 69 = .ok (.putfield 122, 3) := by decide +kernel
theorem dX4_leap_72 : decode cX4_leap 72 = .ok (.aload_n 0, 1) := by decide +kernel
theorem dX4_leap_73 : decode cX4_leap 73 = .ok (.getfield 9, 3) := by decide +kernel
theorem dX4_leap_76 : decode cX4_leap 76 = .ok (.invokevirtual 57, 3) := by decide +kernel
theorem dX4_leap_79 : decode cX4_leap 79 = .ok (.aload_n 0, 1) := by decide +kernel
theorem dX4_leap_80 : decode cX4_leap 80 = .ok (.getfield 9, 3) := by decide +kernel
theorem dX4_leap_83 : decode cX4_leap 83 = .ok (.bipush 26, 2) := by decide +kernel
theorem dX4_leap_85 : decode cX4_leap 85 = .ok (.invokevirtual 70, 3) := by decide +kernel
theorem dX4_leap_88 : decode cX4_leap 88 = .ok (.return_, 1) := by decide +kernel
theorem dX4_returnStatement_0 : decode cX4_returnStatement 0 = .ok (.aload_n 0, 1) := by decide +kernel
theorem dX4_returnStatement_1 : decode cX4_returnStatement 1 = .ok (.getfield 9, 3) := by decide +kernel
theorem dX4_returnStatement_4 : decode cX4_returnStatement 4 = .ok (.invokevirtual 57, 3) := by decide +kernel
theorem dX4_returnStatement_7 : decode cX4_returnStatement 7 = .ok (.aload_n 0, 1) := by decide +kernel
theorem dX4_returnStatement_8 : decode cX4_returnStatement 8 = .ok (.getfield 9, 3) := by decide +kernel
theorem dX4_returnStatement_11 : decode cX4_returnStatement 11 = .ok (.getfield 52, 3) := by decide +kernel
theorem dX4_returnStatement_14 : decode cX4_returnStatement 14 = .ok (.bipush 26, 2) := by decide +kernel
theorem dX4_returnStatement_16 : decode cX4_returnStatement 16 = .ok (.if_icmp .ne 7, 3) := by decide +kernel
theorem dX4_returnStatement_19 : decode cX4_returnStatement 19 = .ok (.iconst 1, 1) := by decide +kernel
theorem dX4_returnStatement_20 : decode cX4_returnStatement 20 = .ok (.goto 4, 3) := by decide +kernel
theorem dX4_returnStatement_23 : decode cX4_returnStatement 23 = .ok (.iconst 0, 1) := by decide +kernel
theorem dX4_returnStatement_24 : decode cX4_returnStatement 24 = .ok (.istore_n 1, 1) := by decide +kernel
theorem dX4_returnStatement_25 : decode cX4_returnStatement 25 = .ok (.iload_n 1, 1) := by decide +kernel
theorem dX4_returnStatement_26 : decode cX4_returnStatement 26 = .ok (.aload_n 0, 1) := by decide +kernel
theorem dX4_returnStatement_27 : decode cX4_returnStatement 27 = .ok (.getfield 15, 3) := by decide +kernel
theorem dX4_returnStatement_30 : decode cX4_returnStatement 30 = .ok (.getfield 279, 3) := by decide +kernel
theorem dX4_returnStatement_33 : decode cX4_returnStatement 33 = .ok (.if_icmp .ne 18, 3) := by decide +kernel
theorem dX4_returnStatement_36 : decode cX4_returnStatement 36 = .ok (.aload_n 0, 1) := by decide +kernel
theorem dX4_returnStatement_37 : decode cX4_returnStatement 37 = .ok (.getfield 15, 3) := by decide +kernel
theorem dX4_returnStatement_40 : decode cX4_returnStatement 40 = .ok (.iconst 3, 1) := by decide +kernel
theorem dX4_returnStatement_41 : decode cX4_returnStatement 41 = .ok (.aload_n 0, 1) := by decide +kernel
theorem dX4_returnStatement_42 : decode cX4_returnStatement 42 = .ok (.getfield 9, 3) := by decide +kernel
theorem dX4_returnStatement_45 : decode cX4_returnStatement 45 = .ok (.getfield 67, 3) := by decide +kernel
theorem dX4_returnStatement_48 : decode cX4_returnStatement 48 = .ok (.invokevirtual 104, 3) := by decide +kernel
theorem dX4_returnStatement_51 : decode cX4_returnStatement 51 = .ok (.iload_n 1, 1) := by decide +kernel
theorem dX4_returnStatement_52 : decode cX4_returnStatement 52 = .ok (.ifCond .eq 16, 3) := by decide +kernel
theorem dX4_returnStatement_55 : decode cX4_returnStatement 55 = .ok (.aload_n 0, 1) := by decide +kernel
theorem dX4_returnStatement_56 : decode cX4_returnStatement 56 = .ok (.getfield 19, 3) := by decide +kernel
theorem dX4_returnStatement_59 : decode cX4_returnStatement 59 = .ok (.bipush 66, 2) := by decide +kernel
theorem dX4_returnStatement_61 : decode cX4_returnStatement 61 = .ok (.iconst 0, 1) := by decide +kernel
theorem dX4_returnStatement_62 : decode cX4_returnStatement 62 = .ok (.invokevirtual 191, 3) := by decide +kernel
theorem dX4_returnStatement_65 : decode cX4_returnStatement 65 = .ok (.goto 10, 3) := by decide +kernel
theorem dX4_returnStatement_68 : decode cX4_returnStatement 68 = .ok (.aload_n 0, 1) := by decide +kernel
theorem dX4_returnStatement_69 : decode cX4_returnStatement 69 = .ok (.getfield 27, 3) := by decide +kernel
theorem dX4_returnStatement_72 : decode cX4_returnStatement 72 = .ok (.invokevirtual 252, 3) := by decide +kernel
theorem dX4_returnStatement_75 : decode cX4_returnStatement 75 = .ok (.aload_n 0, 1) := by decide +kernel
theorem dX4_returnStatement_76 : decode cX4_returnStatement 76 = .ok (.getfield 19, 3) := by decide +kernel
theorem dX4_returnStatement_79 : decode cX4_returnStatement 79 = .ok (.bipush 15, 2) := by decide +kernel
theorem dX4_returnStatement_81 : decode cX4_returnStatement 81 = .ok (.invokevirtual 194, 3) := by decide +kernel
theorem dX4_returnStatement_84 : decode cX4_returnStatement 84 = .ok (.aload_n 0, 1) := by decide +kernel
theorem dX4_returnStatement_85 : decode cX4_returnStatement 85 = .ok (.getfield 9, 3) := by decide +kernel
theorem dX4_returnStatement_88 : decode cX4_returnStatement 88 = .ok (.bipush 26, 2) := by decide +kernel
theorem dX4_returnStatement_90 : decode cX4_returnStatement 90 = .ok (.invokevirtual 70, 3) := by decide +kernel
theorem dX4_returnStatement_93 : decode cX4_returnStatement 93 = .ok (.return_, 1) := by decide +kernel
theorem dX4_handOut_0 : decode cX4_handOut 0 = .ok (.aload_n 0, 1) := by decide +kernel
theorem dX4_handOut_1 : decode cX4_handOut 1 = .ok (.getfield 9, 3) := by decide +kernel
theorem dX4_handOut_4 : decode cX4_handOut 4 = .ok (.getfield 52, 3) := by decide +kernel
theorem dX4_handOut_7 : decode cX4_handOut 7 = .ok (.istore_n 1, 1) := by decide +kernel
theorem dX4_handOut_8 : decode cX4_handOut 8 = .ok (.aload_n 0, 1) := by decide +kernel
theorem dX4_handOut_9 : decode cX4_handOut 9 = .ok (.getfield 9, 3) := by decide +kernel
theorem dX4_handOut_12 : decode cX4_handOut 12 = .ok (.invokevirtual 57, 3) := by decide +kernel
theorem dX4_handOut_15 : decode cX4_handOut 15 = .ok (.aload_n 0, 1) := by decide +kernel
theorem dX4_handOut_16 : decode cX4_handOut 16 = .ok (.invokevirtual 261, 3) := by decide +kernel
theorem dX4_handOut_19 : decode cX4_handOut 19 = .ok (.aload_n 0, 1) := by decide +kernel
theorem dX4_handOut_20 : decode cX4_handOut 20 = .ok (.getfield 19, 3) := by decide +kernel
theorem dX4_handOut_23 : decode cX4_handOut 23 = .ok (.iload_n 1, 1) := by decide +kernel
theorem dX4_handOut_24 : decode cX4_handOut 24 = .ok (.invokevirtual 194, 3) := by decide +kernel
theorem dX4_handOut_27 : decode cX4_handOut 27 = .ok (.aload_n 0, 1) := by decide +kernel
theorem dX4_handOut_28 : decode cX4_handOut 28 = .ok (.getfield 9, 3) := by decide +kernel
theorem dX4_handOut_31 : decode cX4_handOut 31 = .ok (.bipush 26, 2) := by decide +kernel
theorem dX4_handOut_33 : decode cX4_handOut 33 = .ok (.invokevirtual 70, 3) := by decide +kernel
theorem dX4_handOut_36 : decode cX4_handOut 36 = .ok (.return_, 1) := by decide +kernel
theorem dX4_simple_0 : decode cX4_simple 0 = .ok (.aload_n 0, 1) := by decide +kernel
theorem dX4_simple_1 : decode cX4_simple 1 = .ok (.getfield 9, 3) := by decide +kernel
theorem dX4_simple_4 : decode cX4_simple 4 = .ok (.getfield 67, 3) := by decide +kernel
theorem dX4_simple_7 : decode cX4_simple 7 = .ok (.istore_n 1, 1) := by decide +kernel
theorem dX4_simple_8 : decode cX4_simple 8 = .ok (.aload_n 0, 1) := by decide +kernel
theorem dX4_simple_9 : decode cX4_simple 9 = .ok (.getfield 9, 3) := by decide +kernel
theorem dX4_simple_12 : decode cX4_simple 12 = .ok (.getfield 64, 3) := by decide +kernel
theorem dX4_simple_15 : decode cX4_simple 15 = .ok (.istore_n 2, 1) := by decide +kernel
theorem dX4_simple_16 : decode cX4_simple 16 = .ok (.aload_n 0, 1) := by decide +kernel
theorem dX4_simple_17 : decode cX4_simple 17 = .ok (.getfield 9, 3) := by decide +kernel
theorem dX4_simple_20 : decode cX4_simple 20 = .ok (.iconst 2, 1) := by decide +kernel
theorem dX4_simple_21 : decode cX4_simple 21 = .ok (.invokevirtual 70, 3) := by decide +kernel
theorem dX4_simple_24 : decode cX4_simple 24 = .ok (.aload_n 0, 1) := by decide +kernel
theorem dX4_simple_25 : decode cX4_simple 25 = .ok (.getfield 9, 3) := by decide +kernel
theorem dX4_simple_28 : decode cX4_simple 28 = .ok (.getfield 52, 3) := by decide +kernel
theorem dX4_simple_31 : decode cX4_simple 31 = .ok (.bipush (-2), 2) := by decide +kernel
theorem dX4_simple_33 : decode cX4_simple 33 = .ok (.if_icmp .ne 4, 3) := by decide +kernel
theorem dX4_simple_36 : decode cX4_simple 36 = .ok (.return_, 1) := by decide +kernel
theorem dX4_simple_37 : decode cX4_simple 37 = .ok (.aload_n 0, 1) := by decide +kernel
theorem dX4_simple_38 : decode cX4_simple 38 = .ok (.getfield 15, 3) := by decide +kernel
theorem dX4_simple_41 : decode cX4_simple 41 = .ok (.iload_n 2, 1) := by decide +kernel
theorem dX4_simple_42 : decode cX4_simple 42 = .ok (.iload_n 1, 1) := by decide +kernel
theorem dX4_simple_43 : decode cX4_simple 43 = .ok (.invokevirtual 282, 3) := by decide +kernel
theorem dX4_simple_46 : decode cX4_simple 46 = .ok (.istore_n 3, 1) := by decide +kernel
theorem dX4_simple_47 : decode cX4_simple 47 = .ok (.aload_n 0, 1) := by decide +kernel
theorem dX4_simple_48 : decode cX4_simple 48 = .ok (.getfield 15, 3) := by decide +kernel
theorem dX4_simple_51 : decode cX4_simple 51 = .ok (.iload_n 3, 1) := by decide +kernel
theorem dX4_simple_52 : decode cX4_simple 52 = .ok (.iload_n 1, 1) := by decide +kernel
theorem dX4_simple_53 : decode cX4_simple 53 = .ok (.aload_n 0, 1) := by decide +kernel
theorem dX4_simple_54 : decode cX4_simple 54 = .ok (.getfield 9, 3) := by decide +kernel
theorem dX4_simple_57 : decode cX4_simple 57 = .ok (.getfield 52, 3) := by decide +kernel
theorem dX4_simple_60 : decode cX4_simple 60 = .ok (.invokevirtual 285, 3) := by decide +kernel
theorem dX4_simple_63 : decode cX4_simple 63 = .ok (.aload_n 0, 1) := by decide +kernel
theorem dX4_simple_64 : decode cX4_simple 64 = .ok (.getfield 9, 3) := by decide +kernel
theorem dX4_simple_67 : decode cX4_simple 67 = .ok (.getfield 52, 3) := by decide +kernel
theorem dX4_simple_70 : decode cX4_simple 70 = .ok (.bipush 19, 2) := by decide +kernel
theorem dX4_simple_72 : decode cX4_simple 72 = .ok (.if_icmp .ne 22, 3) := by decide +kernel
theorem dX4_simple_75 : decode cX4_simple 75 = .ok (.aload_n 0, 1) := by decide +kernel
theorem dX4_simple_76 : decode cX4_simple 76 = .ok (.getfield 27, 3) := by decide +kernel
theorem dX4_simple_79 : decode cX4_simple 79 = .ok (.iload_n 3, 1) := by decide +kernel
theorem dX4_simple_80 : decode cX4_simple 80 = .ok (.iload_n 1, 1) := by decide +kernel
theorem dX4_simple_81 : decode cX4_simple 81 = .ok (.invokevirtual 288, 3) := by decide +kernel
theorem dX4_simple_84 : decode cX4_simple 84 = .ok (.aload_n 0, 1) := by decide +kernel
theorem dX4_simple_85 : decode cX4_simple 85 = .ok (.getfield 19, 3) := by decide +kernel
theorem dX4_simple_88 : decode cX4_simple 88 = .ok (.bipush 68, 2) := by decide +kernel
theorem dX4_simple_90 : decode cX4_simple 90 = .ok (.invokevirtual 194, 3) := by decide +kernel
theorem dX4_simple_93 : decode cX4_simple 93 = .ok (.return_, 1) := by decide +kernel
theorem dX4_simple_94 : decode cX4_simple 94 = .ok (.aload_n 0, 1) := by decide +kernel
theorem dX4_simple_95 : decode cX4_simple 95 = .ok (.getfield 9, 3) := by decide +kernel
theorem dX4_simple_98 : decode cX4_simple 98 = .ok (.getfield 52, 3) := by decide +kernel
theorem dX4_simple_101 : decode cX4_simple 101 = .ok (.bipush 21, 2) := by decide +kernel
theorem dX4_simple_103 : decode cX4_simple 103 = .ok (.if_icmp .ne 7, 3) := by decide +kernel
theorem dX4_simple_106 : decode cX4_simple 106 = .ok (.iconst 1, 1) := by decide +kernel
theorem dX4_simple_107 : decode cX4_simple 107 = .ok (.goto 4, 3) := by decide +kernel
theorem dX4_simple_110 : decode cX4_simple 110 = .ok (.iconst 0, 1) := by decide +kernel
theorem dX4_simple_111 : decode cX4_simple 111 = .ok (.istore 4, 2) := by decide +kernel
theorem dX4_simple_113 : decode cX4_simple 113 = .ok (.iload 4, 2) := by decide +kernel
theorem dX4_simple_115 : decode cX4_simple 115 = .ok (.ifCond .eq 11, 3) := by decide +kernel
theorem dX4_simple_118 : decode cX4_simple 118 = .ok (.aload_n 0, 1) := by decide +kernel
theorem dX4_simple_119 : decode cX4_simple 119 = .ok (.getfield 27, 3) := by decide +kernel
theorem dX4_simple_122 : decode cX4_simple 122 = .ok (.iload_n 3, 1) := by decide +kernel
theorem dX4_simple_123 : decode cX4_simple 123 = .ok (.invokevirtual 291, 3) := by decide +kernel
theorem dX4_simple_126 : decode cX4_simple 126 = .ok (.aload_n 0, 1) := by decide +kernel
theorem dX4_simple_127 : decode cX4_simple 127 = .ok (.getfield 9, 3) := by decide +kernel
theorem dX4_simple_130 : decode cX4_simple 130 = .ok (.getfield 52, 3) := by decide +kernel
theorem dX4_simple_133 : decode cX4_simple 133 = .ok (.istore 5, 2) := by decide +kernel
theorem dX4_simple_135 : decode cX4_simple 135 = .ok (.iload 5, 2) := by decide +kernel
theorem dX4_simple_137 : decode cX4_simple 137 = .ok (.bipush 29, 2) := by decide +kernel
theorem dX4_simple_139 : decode cX4_simple 139 = .ok (.if_icmp .lt 10, 3) := by decide +kernel
theorem dX4_simple_142 : decode cX4_simple 142 = .ok (.iload 5, 2) := by decide +kernel
theorem dX4_simple_144 : decode cX4_simple 144 = .ok (.bipush 42, 2) := by decide +kernel
theorem dX4_simple_146 : decode cX4_simple 146 = .ok (.if_icmp .le 12, 3) := by decide +kernel
theorem dX4_simple_149 : decode cX4_simple 149 = .ok (.aload_n 0, 1) := by decide +kernel
theorem dX4_simple_150 : decode cX4_simple 150 = .ok (.getfield 9, 3) := by decide +kernel
theorem dX4_simple_153 : decode cX4_simple 153 = .ok (.iconst 2, 1) := by decide +kernel
theorem dX4_simple_154 : decode cX4_simple 154 = .ok (.invokevirtual 98, 3) := by decide +kernel
theorem dX4_simple_157 : decode cX4_simple 157 = .ok (.return_, 1) := by decide +kernel
theorem dX4_simple_158 : decode cX4_simple 158 = .ok (.aload_n 0, 1) := by decide +kernel
theorem dX4_simple_159 : decode cX4_simple 159 = .ok (.getfield 9, 3) := by decide +kernel
theorem dX4_simple_162 : decode cX4_simple 162 = .ok (.invokevirtual 57, 3) := by decide +kernel
theorem dX4_simple_165 : decode cX4_simple 165 = .ok (.iload 5, 2) := by decide +kernel
theorem dX4_simple_167 : decode cX4_simple 167 = .ok (.bipush 29, 2) := by decide +kernel
theorem dX4_simple_169 : decode cX4_simple 169 = .ok (.if_icmp .eq 10, 3) := by decide +kernel
theorem dX4_simple_172 : decode cX4_simple 172 = .ok (.aload_n 0, 1) := by decide +kernel
theorem dX4_simple_173 : decode cX4_simple 173 = .ok (.iload_n 3, 1) := by decide +kernel
theorem dX4_simple_174 : decode cX4_simple 174 = .ok (.iload 4, 2) := by decide +kernel
theorem dX4_simple_176 : decode cX4_simple 176 = .ok (.invokevirtual 294, 3) := by decide +kernel
theorem dX4_simple_179 : decode cX4_simple 179 = .ok (.iload 5, 2) := by decide +kernel
theorem dX4_simple_181 : decode cX4_simple 181 = .ok (.bipush 41, 2) := by decide +kernel
theorem dX4_simple_183 : decode cX4_simple 183 = .ok (.if_icmp .ge 13, 3) := by decide +kernel
theorem dX4_simple_186 : decode cX4_simple 186 = .ok (.aload_n 0, 1) := by decide +kernel
theorem dX4_simple_187 : decode cX4_simple 187 = .ok (.getfield 27, 3) := by decide +kernel
theorem dX4_simple_190 : decode cX4_simple 190 = .ok (.invokevirtual 252, 3) := by decide +kernel
theorem dX4_simple_193 : decode cX4_simple 193 = .ok (.goto 13, 3) := by decide +kernel
theorem dX4_simple_196 : decode cX4_simple 196 = .ok (.aload_n 0, 1) := by decide +kernel
theorem dX4_simple_197 : decode cX4_simple 197 = .ok (.getfield 19, 3) := by decide +kernel
theorem dX4_simple_200 : decode cX4_simple 200 = .ok (.bipush 66, 2) := by decide +kernel
theorem dX4_simple_202 : decode cX4_simple 202 = .ok (.iconst 1, 1) := by decide +kernel
theorem dX4_simple_203 : decode cX4_simple 203 = .ok (.invokevirtual 191, 3) := by decide +kernel
theorem dX4_simple_206 : decode cX4_simple 206 = .ok (.iload 5, 2) := by decide +kernel
theorem dX4_simple_208 : decode cX4_simple 208 = .ok (.bipush 29, 2) := by decide +kernel
theorem dX4_simple_210 : decode cX4_simple 210 = .ok (.if_icmp .eq 19, 3) := by decide +kernel
theorem dX4_simple_213 : decode cX4_simple 213 = .ok (.aload_n 0, 1) := by decide +kernel
theorem dX4_simple_214 : decode cX4_simple 214 = .ok (.getfield 19, 3) := by decide +kernel
theorem dX4_simple_217 : decode cX4_simple 217 = .ok (.getstatic 297, 3) := by decide +kernel
theorem dX4_simple_220 : decode cX4_simple 220 = .ok (.iload 5, 2) := by decide +kernel
theorem dX4_simple_222 : decode cX4_simple 222 = .ok (.bipush 30, 2) := by decide +kernel
theorem dX4_simple_224 : decode cX4_simple 224 = .ok (.isub, 1) := by decide +kernel
theorem dX4_simple_225 : decode cX4_simple 225 = .ok (.iaload, 1) := by decide +kernel
theorem dX4_simple_226 : decode cX4_simple 226 = .ok (.invokevirtual 194, 3) := by decide +kernel
theorem dX4_simple_229 : decode cX4_simple 229 = .ok (.iload 4, 2) := by decide +kernel
theorem dX4_simple_231 : decode cX4_simple 231 = .ok (.ifCond .eq 14, 3) := by decide +kernel
theorem dX4_simple_234 : decode cX4_simple 234 = .ok (.aload_n 0, 1) := by decide +kernel
theorem dX4_simple_235 : decode cX4_simple 235 = .ok (.getfield 27, 3) := by decide +kernel
theorem dX4_simple_238 : decode cX4_simple 238 = .ok (.iload_n 3, 1) := by decide +kernel
theorem dX4_simple_239 : decode cX4_simple 239 = .ok (.invokevirtual 300, 3) := by decide +kernel
theorem dX4_simple_242 : decode cX4_simple 242 = .ok (.goto 11, 3) := by decide +kernel
theorem dX4_simple_245 : decode cX4_simple 245 = .ok (.aload_n 0, 1) := by decide +kernel
theorem dX4_simple_246 : decode cX4_simple 246 = .ok (.getfield 27, 3) := by decide +kernel
theorem dX4_simple_249 : decode cX4_simple 249 = .ok (.iload_n 3, 1) := by decide +kernel
theorem dX4_simple_250 : decode cX4_simple 250 = .ok (.invokevirtual 303, 3) := by decide +kernel
theorem dX4_simple_253 : decode cX4_simple 253 = .ok (.return_, 1) := by decide +kernel
theorem dX4_oldValue_0 : decode cX4_oldValue 0 = .ok (.iload_n 2, 1) := by decide +kernel
theorem dX4_oldValue_1 : decode cX4_oldValue 1 = .ok (.ifCond .eq 23, 3) := by decide +kernel
theorem dX4_oldValue_4 : decode cX4_oldValue 4 = .ok (.aload_n 0, 1) := by decide +kernel
theorem dX4_oldValue_5 : decode cX4_oldValue 5 = .ok (.getfield 19, 3) := by decide +kernel
theorem dX4_oldValue_8 : decode cX4_oldValue 8 = .ok (.bipush 67, 2) := by decide +kernel
theorem dX4_oldValue_10 : decode cX4_oldValue 10 = .ok (.invokevirtual 194, 3) := by decide +kernel
theorem dX4_oldValue_13 : decode cX4_oldValue 13 = .ok (.aload_n 0, 1) := by decide +kernel
theorem dX4_oldValue_14 : decode cX4_oldValue 14 = .ok (.getfield 27, 3) := by decide +kernel
theorem dX4_oldValue_17 : decode cX4_oldValue 17 = .ok (.iload_n 1, 1) := by decide +kernel
theorem dX4_oldValue_18 : decode cX4_oldValue 18 = .ok (.invokevirtual 306, 3) := by decide +kernel
theorem dX4_oldValue_21 : decode cX4_oldValue 21 = .ok (.goto 11, 3) := by decide +kernel
theorem dX4_oldValue_24 : decode cX4_oldValue 24 = .ok (.aload_n 0, 1) := by decide +kernel
theorem dX4_oldValue_25 : decode cX4_oldValue 25 = .ok (.getfield 27, 3) := by decide +kernel
theorem dX4_oldValue_28 : decode cX4_oldValue 28 = .ok (.iload_n 1, 1) := by decide +kernel
theorem dX4_oldValue_29 : decode cX4_oldValue 29 = .ok (.invokevirtual 309, 3) := by decide +kernel
theorem dX4_oldValue_32 : decode cX4_oldValue 32 = .ok (.return_, 1) := by decide +kernel
theorem dX5_init_0 : decode cX5_init 0 = .ok (.aload_n 0, 1) := by decide +kernel
theorem dX5_init_1 : decode cX5_init 1 = .ok (.invokespecial 3, 3) := by decide +kernel
theorem dX5_init_4 : decode cX5_init 4 = .ok (.aload_n 0, 1) := by decide +kernel
theorem dX5_init_5 : decode cX5_init 5 = .ok (.sipush 700, 3) := by decide +kernel
theorem dX5_init_8 : decode cX5_init 8 = .ok (.newarray .int, 2) := by decide +kernel
theorem dX5_init_10 : decode cX5_init 10 = .ok (.putfield 11, 3) := by decide +kernel
theorem dX5_init_13 : decode cX5_init 13 = .ok (.aload_n 0, 1) := by decide +kernel
theorem dX5_init_14 : decode cX5_init 14 = .ok (.sipush 700, 3) := by decide +kernel
theorem dX5_init_17 : decode cX5_init 17 = .ok (.newarray .int, 2) := by decide +kernel
theorem dX5_init_19 : decode cX5_init 19 = .ok (.putfield 15, 3) := by decide +kernel
theorem dX5_init_22 : decode cX5_init 22 = .ok (.aload_n 0, 1) := by decide +kernel
theorem dX5_init_23 : decode cX5_init 23 = .ok (.sipush 700, 3) := by decide +kernel
theorem dX5_init_26 : decode cX5_init 26 = .ok (.newarray .int, 2) := by decide +kernel
theorem dX5_init_28 : decode cX5_init 28 = .ok (.putfield 18, 3) := by decide +kernel
theorem dX5_init_31 : decode cX5_init 31 = .ok (.aload_n 0, 1) := by decide +kernel
theorem dX5_init_32 : decode cX5_init 32 = .ok (.sipush 700, 3) := by decide +kernel
theorem dX5_init_35 : decode cX5_init 35 = .ok (.newarray .int, 2) := by decide +kernel
theorem dX5_init_37 : decode cX5_init 37 = .ok (.putfield 21, 3) := by decide +kernel
theorem dX5_init_40 : decode cX5_init 40 = .ok (.aload_n 0, 1) := by decide +kernel
theorem dX5_init_41 : decode cX5_init 41 = .ok (.sipush 700, 3) := by decide +kernel
theorem dX5_init_44 : decode cX5_init 44 = .ok (.newarray .int, 2) := by decide +kernel
theorem dX5_init_46 : decode cX5_init 46 = .ok (.putfield 24, 3) := by decide +kernel
theorem dX5_init_49 : decode cX5_init 49 = .ok (.aload_n 0, 1) := by decide +kernel
theorem dX5_init_50 : decode cX5_init 50 = .ok (.sipush 700, 3) := by decide +kernel
theorem dX5_init_53 : decode cX5_init 53 = .ok (.newarray .int, 2) := by decide +kernel
theorem dX5_init_55 : decode cX5_init 55 = .ok (.putfield 27, 3) := by decide +kernel
theorem dX5_init_58 : decode cX5_init 58 = .ok (.aload_n 0, 1) := by decide +kernel
theorem dX5_init_59 : decode cX5_init 59 = .ok (.sipush 700, 3) := by decide +kernel
theorem dX5_init_62 : decode cX5_init 62 = .ok (.newarray .int, 2) := by decide +kernel
theorem dX5_init_64 : decode cX5_init 64 = .ok (.putfield 30, 3) := by decide +kernel
theorem dX5_init_67 : decode cX5_init 67 = .ok (.aload_n 0, 1) := by decide +kernel
theorem dX5_init_68 : decode cX5_init 68 = .ok (.sipush 1408, 3) := by decide +kernel
theorem dX5_init_71 : decode cX5_init 71 = .ok (.newarray .int, 2) := by decide +kernel
theorem dX5_init_73 : decode cX5_init 73 = .ok (.putfield 33, 3) := by decide +kernel
theorem dX5_init_76 : decode cX5_init 76 = .ok (.aload_n 0, 1) := by decide +kernel
theorem dX5_init_77 : decode cX5_init 77 = .ok (.aload_n 1, 1) := by decide +kernel
theorem dX5_init_78 : decode cX5_init 78 = .ok (.putfield 36, 3) := by decide +kernel
theorem dX5_init_81 : decode cX5_init 81 = .ok (.return_, 1) := by decide +kernel
theorem dX5_clear_0 : decode cX5_clear 0 = .ok (.aload_n 0, 1) := by decide +kernel
theorem dX5_clear_1 : decode cX5_clear 1 = .ok (.iconst 0, 1) := by decide +kernel
theorem dX5_clear_2 : decode cX5_clear 2 = .ok (.putfield 40, 3) := by decide +kernel
theorem dX5_clear_5 : decode cX5_clear 5 = .ok (.aload_n 0, 1) := by decide +kernel
theorem dX5_clear_6 : decode cX5_clear 6 = .ok (.iconst 0, 1) := by decide +kernel
theorem dX5_clear_7 : decode cX5_clear 7 = .ok (.putfield 44, 3) := by decide +kernel
theorem dX5_clear_10 : decode cX5_clear 10 = .ok (.aload_n 0, 1) := by decide +kernel
theorem dX5_clear_11 : decode cX5_clear 11 = .ok (.sipush 4001, 3) := by decide +kernel
theorem dX5_clear_14 : decode cX5_clear 14 = .ok (.putfield 47, 3) := by decide +kernel
theorem dX5_clear_17 : decode cX5_clear 17 = .ok (.aload_n 0, 1) := by decide +kernel
theorem dX5_clear_18 : decode cX5_clear 18 = .ok (.iconst 0, 1) := by decide +kernel
theorem dX5_clear_19 : decode cX5_clear 19 = .ok (.putfield 50, 3) := by decide +kernel
theorem dX5_clear_22 : decode cX5_clear 22 = .ok (.aload_n 0, 1) := by decide +kernel
theorem dX5_clear_23 : decode cX5_clear 23 = .ok (.iconst 0, 1) := by decide +kernel
theorem dX5_clear_24 : decode cX5_clear 24 = .ok (.putfield 53, 3) := by decide +kernel
theorem dX5_clear_27 : decode cX5_clear 27 = .ok (.aload_n 0, 1) := by decide +kernel
theorem dX5_clear_28 : decode cX5_clear 28 = .ok (.iconst 0, 1) := by decide +kernel
theorem dX5_clear_29 : decode cX5_clear 29 = .ok (.putfield 57, 3) := by decide +kernel
theorem dX5_clear_32 : decode cX5_clear 32 = .ok (.aload_n 0, 1) := by decide +kernel
theorem dX5_clear_33 : decode cX5_clear 33 = .ok (.iconst 1, 1) := by decide +kernel
theorem dX5_clear_34 : decode cX5_clear 34 = .ok (.putfield 60, 3) := by decide +kernel
theorem dX5_clear_37 : decode cX5_clear 37 = .ok (.aload_n 0, 1) := by decide +kernel
theorem dX5_clear_38 : decode cX5_clear 38 = .ok (.getfield 33, 3) := by decide +kernel
theorem dX5_clear_41 : decode cX5_clear 41 = .ok (.iconst (-1), 1) := by decide +kernel
theorem dX5_clear_42 : decode cX5_clear 42 = .ok (.invokestatic 63, 3) := by decide +kernel
theorem dX5_clear_45 : decode cX5_clear 45 = .ok (.return_, 1) := by decide +kernel
theorem dX5_fault_0 : decode cX5_fault 0 = .ok (.aload_n 0, 1) := by decide +kernel
theorem dX5_fault_1 : decode cX5_fault 1 = .ok (.getfield 47, 3) := by decide +kernel
theorem dX5_fault_4 : decode cX5_fault 4 = .ok (.sipush 4000, 3) := by decide +kernel
theorem dX5_fault_7 : decode cX5_fault 7 = .ok (.if_icmp .le 7, 3) := by decide +kernel
theorem dX5_fault_10 : decode cX5_fault 10 = .ok (.iconst 0, 1) := by decide +kernel
theorem dX5_fault_11 : decode cX5_fault 11 = .ok (.goto 19, 3) := by decide +kernel
theorem dX5_fault_14 : decode cX5_fault 14 = .ok (.aload_n 0, 1) := by decide +kernel
theorem dX5_fault_15 : decode cX5_fault 15 = .ok (.getfield 47, 3) := by decide +kernel
theorem dX5_fault_18 : decode cX5_fault 18 = .ok (.bipush 16, 2) := by decide +kernel
theorem dX5_fault_20 : decode cX5_fault 20 = .ok (.imul, 1) := by decide +kernel
theorem dX5_fault_21 : decode cX5_fault 21 = .ok (.getstatic 69, 3) := by decide +kernel
theorem dX5_fault_24 : decode cX5_fault 24 = .ok (.aload_n 0, 1) := by decide +kernel
theorem dX5_fault_25 : decode cX5_fault 25 = .ok (.getfield 50, 3) := by decide +kernel
theorem dX5_fault_28 : decode cX5_fault 28 = .ok (.iaload, 1) := by decide +kernel
theorem dX5_fault_29 : decode cX5_fault 29 = .ok (.iadd, 1) := by decide +kernel
theorem dX5_fault_30 : decode cX5_fault 30 = .ok (.ireturn, 1) := by decide +kernel
theorem dX5_note_0 : decode cX5_note 0 = .ok (.aload_n 0, 1) := by decide +kernel
theorem dX5_note_1 : decode cX5_note 1 = .ok (.getfield 53, 3) := by decide +kernel
theorem dX5_note_4 : decode cX5_note 4 = .ok (.ifCond .eq 15, 3) := by decide +kernel
theorem dX5_note_7 : decode cX5_note 7 = .ok (.iload_n 1, 1) := by decide +kernel
theorem dX5_note_8 : decode cX5_note 8 = .ok (.ifCond .lt 11, 3) := by decide +kernel
theorem dX5_note_11 : decode cX5_note 11 = .ok (.iload_n 1, 1) := by decide +kernel
theorem dX5_note_12 : decode cX5_note 12 = .ok (.getstatic 69, 3) := by decide +kernel
theorem dX5_note_15 : decode cX5_note 15 = .ok (.arraylength, 1) := by decide +kernel
theorem dX5_note_16 : decode cX5_note 16 = .ok (.if_icmp .lt 4, 3) := by decide +kernel
theorem dX5_note_19 : decode cX5_note 19 = .ok (.return_, 1) := by decide +kernel
theorem dX5_note_20 : decode cX5_note 20 = .ok (.aload_n 0, 1) := by decide +kernel
theorem dX5_note_21 : decode cX5_note 21 = .ok (.iconst 0, 1) := by decide +kernel
theorem dX5_note_22 : decode cX5_note 22 = .ok (.putfield 60, 3) := by decide +kernel
theorem dX5_note_25 : decode cX5_note 25 = .ok (.iload_n 2, 1) := by decide +kernel
theorem dX5_note_26 : decode cX5_note 26 = .ok (.aload_n 0, 1) := by decide +kernel
theorem dX5_note_27 : decode cX5_note 27 = .ok (.getfield 47, 3) := by decide +kernel
theorem dX5_note_30 : decode cX5_note 30 = .ok (.if_icmp .lt 19, 3) := by decide +kernel
theorem dX5_note_33 : decode cX5_note 33 = .ok (.iload_n 2, 1) := by decide +kernel
theorem dX5_note_34 : decode cX5_note 34 = .ok (.aload_n 0, 1) := by decide +kernel
theorem dX5_note_35 : decode cX5_note 35 = .ok (.getfield 47, 3) := by decide +kernel
theorem dX5_note_38 : decode cX5_note 38 = .ok (.if_icmp .ne 21, 3) := by decide +kernel
theorem dX5_note_41 : decode cX5_note 41 = .ok (.iload_n 1, 1) := by decide +kernel
theorem dX5_note_42 : decode cX5_note 42 = .ok (.aload_n 0, 1) := by decide +kernel
theorem dX5_note_43 : decode cX5_note 43 = .ok (.getfield 50, 3) := by decide +kernel
theorem dX5_note_46 : decode cX5_note 46 = .ok (.if_icmp .ge 13, 3) := by decide +kernel
theorem dX5_note_49 : decode cX5_note 49 = .ok (.aload_n 0, 1) := by decide +kernel
theorem dX5_note_50 : decode cX5_note 50 = .ok (.iload_n 2, 1) := by decide +kernel
theorem dX5_note_51 : decode cX5_note 51 = .ok (.putfield 47, 3) := by decide +kernel
theorem dX5_note_54 : decode cX5_note 54 = .ok (.aload_n 0, 1) := by decide +kernel
theorem dX5_note_55 : decode cX5_note 55 = .ok (.iload_n 1, 1) := by decide +kernel
theorem dX5_note_56 : decode cX5_note 56 = .ok (.putfield 50, 3) := by decide +kernel
theorem dX5_note_59 : decode cX5_note 59 = .ok (.return_, 1) := by decide +kernel
theorem dX5_kind_0 : decode cX5_kind 0 = .ok (.iload_n 1, 1) := by decide +kernel
theorem dX5_kind_1 : decode cX5_kind 1 = .ok (.ifCond .lt 11, 3) := by decide +kernel
theorem dX5_kind_4 : decode cX5_kind 4 = .ok (.iload_n 1, 1) := by decide +kernel
theorem dX5_kind_5 : decode cX5_kind 5 = .ok (.aload_n 0, 1) := by decide +kernel
theorem dX5_kind_6 : decode cX5_kind 6 = .ok (.getfield 40, 3) := by decide +kernel
theorem dX5_kind_9 : decode cX5_kind 9 = .ok (.if_icmp .lt 7, 3) := by decide +kernel
theorem dX5_kind_12 : decode cX5_kind 12 = .ok (.iconst (-1), 1) := by decide +kernel
theorem dX5_kind_13 : decode cX5_kind 13 = .ok (.goto 9, 3) := by decide +kernel
theorem dX5_kind_16 : decode cX5_kind 16 = .ok (.aload_n 0, 1) := by decide +kernel
theorem dX5_kind_17 : decode cX5_kind 17 = .ok (.getfield 18, 3) := by decide +kernel
theorem dX5_kind_20 : decode cX5_kind 20 = .ok (.iload_n 1, 1) := by decide +kernel
theorem dX5_kind_21 : decode cX5_kind 21 = .ok (.iaload, 1) := by decide +kernel
theorem dX5_kind_22 : decode cX5_kind 22 = .ok (.ireturn, 1) := by decide +kernel
theorem dX5_value_0 : decode cX5_value 0 = .ok (.iload_n 1, 1) := by decide +kernel
theorem dX5_value_1 : decode cX5_value 1 = .ok (.ifCond .lt 11, 3) := by decide +kernel
theorem dX5_value_4 : decode cX5_value 4 = .ok (.iload_n 1, 1) := by decide +kernel
theorem dX5_value_5 : decode cX5_value 5 = .ok (.aload_n 0, 1) := by decide +kernel
theorem dX5_value_6 : decode cX5_value 6 = .ok (.getfield 40, 3) := by decide +kernel
theorem dX5_value_9 : decode cX5_value 9 = .ok (.if_icmp .lt 7, 3) := by decide +kernel
theorem dX5_value_12 : decode cX5_value 12 = .ok (.iconst 0, 1) := by decide +kernel
theorem dX5_value_13 : decode cX5_value 13 = .ok (.goto 9, 3) := by decide +kernel
theorem dX5_value_16 : decode cX5_value 16 = .ok (.aload_n 0, 1) := by decide +kernel
theorem dX5_value_17 : decode cX5_value 17 = .ok (.getfield 24, 3) := by decide +kernel
theorem dX5_value_20 : decode cX5_value 20 = .ok (.iload_n 1, 1) := by decide +kernel
theorem dX5_value_21 : decode cX5_value 21 = .ok (.iaload, 1) := by decide +kernel
theorem dX5_value_22 : decode cX5_value 22 = .ok (.ireturn, 1) := by decide +kernel
theorem dX5_size_0 : decode cX5_size 0 = .ok (.iload_n 1, 1) := by decide +kernel
theorem dX5_size_1 : decode cX5_size 1 = .ok (.ifCond .lt 11, 3) := by decide +kernel
theorem dX5_size_4 : decode cX5_size 4 = .ok (.iload_n 1, 1) := by decide +kernel
theorem dX5_size_5 : decode cX5_size 5 = .ok (.aload_n 0, 1) := by decide +kernel
theorem dX5_size_6 : decode cX5_size 6 = .ok (.getfield 40, 3) := by decide +kernel
theorem dX5_size_9 : decode cX5_size 9 = .ok (.if_icmp .lt 7, 3) := by decide +kernel
theorem dX5_size_12 : decode cX5_size 12 = .ok (.iconst 0, 1) := by decide +kernel
theorem dX5_size_13 : decode cX5_size 13 = .ok (.goto 9, 3) := by decide +kernel
theorem dX5_size_16 : decode cX5_size 16 = .ok (.aload_n 0, 1) := by decide +kernel
theorem dX5_size_17 : decode cX5_size 17 = .ok (.getfield 27, 3) := by decide +kernel
theorem dX5_size_20 : decode cX5_size 20 = .ok (.iload_n 1, 1) := by decide +kernel
theorem dX5_size_21 : decode cX5_size 21 = .ok (.iaload, 1) := by decide +kernel
theorem dX5_size_22 : decode cX5_size 22 = .ok (.ireturn, 1) := by decide +kernel
theorem dX5_isGlobal_0 : decode cX5_isGlobal 0 = .ok (.iload_n 1, 1) := by decide +kernel
theorem dX5_isGlobal_1 : decode cX5_isGlobal 1 = .ok (.ifCond .lt 24, 3) := by decide +kernel
theorem dX5_isGlobal_4 : decode cX5_isGlobal 4 = .ok (.iload_n 1, 1) := by decide +kernel
theorem dX5_isGlobal_5 : decode cX5_isGlobal 5 = .ok (.aload_n 0, 1) := by decide +kernel
theorem dX5_isGlobal_6 : decode cX5_isGlobal 6 = .ok (.getfield 40, 3) := by decide +kernel
theorem dX5_isGlobal_9 : decode cX5_isGlobal 9 = .ok (.if_icmp .ge 16, 3) := by decide +kernel
theorem dX5_isGlobal_12 : decode cX5_isGlobal 12 = .ok (.aload_n 0, 1) := by decide +kernel
theorem dX5_isGlobal_13 : decode cX5_isGlobal 13 = .ok (.getfield 15, 3) := by decide +kernel
theorem dX5_isGlobal_16 : decode cX5_isGlobal 16 = .ok (.iload_n 1, 1) := by decide +kernel
theorem dX5_isGlobal_17 : decode cX5_isGlobal 17 = .ok (.iaload, 1) := by decide +kernel
theorem dX5_isGlobal_18 : decode cX5_isGlobal 18 = .ok (.ifCond .ne 7, 3) := by decide +kernel
theorem dX5_isGlobal_21 : decode cX5_isGlobal 21 = .ok (.iconst 1, 1) := by decide +kernel
theorem dX5_isGlobal_22 : decode cX5_isGlobal 22 = .ok (.goto 4, 3) := by decide +kernel
theorem dX5_isGlobal_25 : decode cX5_isGlobal 25 = .ok (.iconst 0, 1) := by decide +kernel
theorem dX5_isGlobal_26 : decode cX5_isGlobal 26 = .ok (.ireturn, 1) := by decide +kernel
theorem dX5_known_0 : decode cX5_known 0 = .ok (.iload_n 1, 1) := by decide +kernel
theorem dX5_known_1 : decode cX5_known 1 = .ok (.ifCond .lt 10, 3) := by decide +kernel
theorem dX5_known_4 : decode cX5_known 4 = .ok (.iload_n 1, 1) := by decide +kernel
theorem dX5_known_5 : decode cX5_known 5 = .ok (.sipush 1408, 3) := by decide +kernel
theorem dX5_known_8 : decode cX5_known 8 = .ok (.if_icmp .lt 7, 3) := by decide +kernel
theorem dX5_known_11 : decode cX5_known 11 = .ok (.iconst (-1), 1) := by decide +kernel
theorem dX5_known_12 : decode cX5_known 12 = .ok (.goto 9, 3) := by decide +kernel
theorem dX5_known_15 : decode cX5_known 15 = .ok (.aload_n 0, 1) := by decide +kernel
theorem dX5_known_16 : decode cX5_known 16 = .ok (.getfield 33, 3) := by decide +kernel
theorem dX5_known_19 : decode cX5_known 19 = .ok (.iload_n 1, 1) := by decide +kernel
theorem dX5_known_20 : decode cX5_known 20 = .ok (.iaload, 1) := by decide +kernel
theorem dX5_known_21 : decode cX5_known 21 = .ok (.ireturn, 1) := by decide +kernel
theorem dX5_meant_0 : decode cX5_meant 0 = .ok (.aload_n 0, 1) := by decide +kernel
theorem dX5_meant_1 : decode cX5_meant 1 = .ok (.getfield 53, 3) := by decide +kernel
theorem dX5_meant_4 : decode cX5_meant 4 = .ok (.ifCond .ne 5, 3) := by decide +kernel
theorem dX5_meant_7 : decode cX5_meant 7 = .ok (.iconst (-1), 1) := by decide +kernel
theorem dX5_meant_8 : decode cX5_meant 8 = .ok (.ireturn, 1) := by decide +kernel
theorem dX5_meant_9 : decode cX5_meant 9 = .ok (.aload_n 0, 1) := by decide +kernel
theorem dX5_meant_10 : decode cX5_meant 10 = .ok (.iload_n 1, 1) := by decide +kernel
theorem dX5_meant_11 : decode cX5_meant 11 = .ok (.invokevirtual 72, 3) := by decide +kernel
theorem dX5_meant_14 : decode cX5_meant 14 = .ok (.istore_n 3, 1) := by decide +kernel
theorem dX5_meant_15 : decode cX5_meant 15 = .ok (.iload_n 3, 1) := by decide +kernel
theorem dX5_meant_16 : decode cX5_meant 16 = .ok (.iconst (-1), 1) := by decide +kernel
theorem dX5_meant_17 : decode cX5_meant 17 = .ok (.if_icmp .ne 9, 3) := by decide +kernel
theorem dX5_meant_20 : decode cX5_meant 20 = .ok (.aload_n 0, 1) := by decide +kernel
theorem dX5_meant_21 : decode cX5_meant 21 = .ok (.iconst 0, 1) := by decide +kernel
theorem dX5_meant_22 : decode cX5_meant 22 = .ok (.iload_n 2, 1) := by decide +kernel
theorem dX5_meant_23 : decode cX5_meant 23 = .ok (.invokevirtual 76, 3) := by decide +kernel
theorem dX5_meant_26 : decode cX5_meant 26 = .ok (.iload_n 3, 1) := by decide +kernel
theorem dX5_meant_27 : decode cX5_meant 27 = .ok (.ireturn, 1) := by decide +kernel
theorem dX5_install_0 : decode cX5_install 0 = .ok (.aload_n 0, 1) := by decide +kernel
theorem dX5_install_1 : decode cX5_install 1 = .ok (.getfield 40, 3) := by decide +kernel
theorem dX5_install_4 : decode cX5_install 4 = .ok (.sipush 700, 3) := by decide +kernel
theorem dX5_install_7 : decode cX5_install 7 = .ok (.if_icmp .ge 114, 3) := by decide +kernel
theorem dX5_install_10 : decode cX5_install 10 = .ok (.iload_n 1, 1) := by decide +kernel
theorem dX5_install_11 : decode cX5_install 11 = .ok (.ifCond .lt 110, 3) := by decide +kernel
theorem dX5_install_14 : decode cX5_install 14 = .ok (.iload_n 1, 1) := by decide +kernel
theorem dX5_install_15 : decode cX5_install 15 = .ok (.sipush 1408, 3) := by decide +kernel
theorem dX5_install_18 : decode cX5_install 18 = .ok (.if_icmp .ge 103, 3) := by decide +kernel
theorem dX5_install_21 : decode cX5_install 21 = .ok (.aload_n 0, 1) := by decide +kernel
theorem dX5_install_22 : decode cX5_install 22 = .ok (.getfield 11, 3) := by decide +kernel
theorem dX5_install_25 : decode cX5_install 25 = .ok (.aload_n 0, 1) := by decide +kernel
theorem dX5_install_26 : decode cX5_install 26 = .ok (.getfield 40, 3) := by decide +kernel
theorem dX5_install_29 : decode cX5_install 29 = .ok (.iload_n 1, 1) := by decide +kernel
theorem dX5_install_30 : decode cX5_install 30 = .ok (.iastore, 1) := by decide +kernel
theorem dX5_install_31 : decode cX5_install 31 = .ok (.aload_n 0, 1) := by decide +kernel
theorem dX5_install_32 : decode cX5_install 32 = .ok (.getfield 15, 3) := by decide +kernel
theorem dX5_install_35 : decode cX5_install 35 = .ok (.aload_n 0, 1) := by decide +kernel
theorem dX5_install_36 : decode cX5_install 36 = .ok (.getfield 40, 3) := by decide +kernel
theorem dX5_install_39 : decode cX5_install 39 = .ok (.aload_n 0, 1) := by decide +kernel
theorem dX5_install_40 : decode cX5_install 40 = .ok (.getfield 44, 3) := by decide +kernel
theorem dX5_install_43 : decode cX5_install 43 = .ok (.iastore, 1) := by decide +kernel
theorem dX5_install_44 : decode cX5_install 44 = .ok (.aload_n 0, 1) := by decide +kernel
theorem dX5_install_45 : decode cX5_install 45 = .ok (.getfield 18, 3) := by decide +kernel
theorem dX5_install_48 : decode cX5_install 48 = .ok (.aload_n 0, 1) := by decide +kernel
theorem dX5_install_49 : decode cX5_install 49 = .ok (.getfield 40, 3) := by decide +kernel
theorem dX5_install_52 : decode cX5_install 52 = .ok (.iload_n 3, 1) := by decide +kernel
theorem dX5_install_53 : decode cX5_install 53 = .ok (.iastore, 1) := by decide +kernel
theorem dX5_install_54 : decode cX5_install 54 = .ok (.aload_n 0, 1) := by decide +kernel
theorem dX5_install_55 : decode cX5_install 55 = .ok (.getfield 21, 3) := by decide +kernel
theorem dX5_install_58 : decode cX5_install 58 = .ok (.aload_n 0, 1) := by decide +kernel
theorem dX5_install_59 : decode cX5_install 59 = .ok (.getfield 40, 3) := by decide +kernel
theorem dX5_install_62 : decode cX5_install 62 = .ok (.iload_n 2, 1) := by decide +kernel
theorem dX5_install_63 : decode cX5_install 63 = .ok (.iastore, 1) := by decide +kernel
theorem dX5_install_64 : decode cX5_install 64 = .ok (.aload_n 0, 1) := by decide +kernel
theorem dX5_install_65 : decode cX5_install 65 = .ok (.getfield 24, 3) := by decide +kernel
theorem dX5_install_68 : decode cX5_install 68 = .ok (.aload_n 0, 1) := by decide +kernel
theorem dX5_install_69 : decode cX5_install 69 = .ok (.getfield 40, 3) := by decide +kernel
theorem dX5_install_72 : decode cX5_install 72 = .ok (.iload 4, 2) := by decide +kernel
theorem dX5_install_74 : decode cX5_install 74 = .ok (.iastore, 1) := by decide +kernel
theorem dX5_install_75 : decode cX5_install 75 = .ok (.aload_n 0, 1) := by decide +kernel
theorem dX5_install_76 : decode cX5_install 76 = .ok (.getfield 27, 3) := by decide +kernel
theorem dX5_install_79 : decode cX5_install 79 = .ok (.aload_n 0, 1) := by decide +kernel
theorem dX5_install_80 : decode cX5_install 80 = .ok (.getfield 40, 3) := by decide +kernel
theorem dX5_install_83 : decode cX5_install 83 = .ok (.iload 5, 2) := by decide +kernel
theorem dX5_install_85 : decode cX5_install 85 = .ok (.iastore, 1) := by decide +kernel
theorem dX5_install_86 : decode cX5_install 86 = .ok (.aload_n 0, 1) := by decide +kernel
theorem dX5_install_87 : decode cX5_install 87 = .ok (.getfield 30, 3) := by decide +kernel
theorem dX5_install_90 : decode cX5_install 90 = .ok (.aload_n 0, 1) := by decide +kernel
theorem dX5_install_91 : decode cX5_install 91 = .ok (.getfield 40, 3) := by decide +kernel
theorem dX5_install_94 : decode cX5_install 94 = .ok (.aload_n 0, 1) := by decide +kernel
theorem dX5_install_95 : decode cX5_install 95 = .ok (.getfield 33, 3) := by decide +kernel
theorem dX5_install_98 : decode cX5_install 98 = .ok (.iload_n 1, 1) := by decide +kernel
theorem dX5_install_99 : decode cX5_install 99 = .ok (.iaload, 1) := by decide +kernel
theorem dX5_install_100 : decode cX5_install 100 = .ok (.iastore, 1) := by decide +kernel
theorem dX5_install_101 : decode cX5_install 101 = .ok (.aload_n 0, 1) := by decide +kernel
theorem dX5_install_102 : decode cX5_install 102 = .ok (.getfield 33, 3) := by decide +kernel
theorem dX5_install_105 : decode cX5_install 105 = .ok (.iload_n 1, 1) := by decide +kernel
theorem dX5_install_106 : decode cX5_install 106 = .ok (.aload_n 0, 1) := by decide +kernel
theorem dX5_install_107 : decode cX5_install 107 = .ok (.getfield 40, 3) := by decide +kernel
theorem dX5_install_110 : decode cX5_install 110 = .ok (.iastore, 1) := by decide +kernel
theorem dX5_install_111 : decode cX5_install 111 = .ok (.aload_n 0, 1) := by decide +kernel
theorem dX5_install_112 : decode cX5_install 112 = .ok (.dup, 1) := by decide +kernel
theorem dX5_install_113 : decode cX5_install 113 = .ok (.getfield 40, 3) := by decide +kernel
theorem dX5_install_116 : decode cX5_install 116 = .ok (.iconst 1, 1) := by decide +kernel
theorem dX5_install_117 : decode cX5_install 117 = .ok (.iadd, 1) := by decide +kernel
theorem dX5_install_118 : decode cX5_install 118 = .ok (.putfield 40, 3) := by decide +kernel
theorem dX5_install_121 : decode cX5_install 121 = .ok (.return_, 1) := by decide +kernel
theorem dX5_announce_0 : decode cX5_announce 0 = .ok (.aload_n 0, 1) := by decide +kernel
theorem dX5_announce_1 : decode cX5_announce 1 = .ok (.iload_n 1, 1) := by decide +kernel
theorem dX5_announce_2 : decode cX5_announce 2 = .ok (.invokevirtual 72, 3) := by decide +kernel
theorem dX5_announce_5 : decode cX5_announce 5 = .ok (.iconst (-1), 1) := by decide +kernel
theorem dX5_announce_6 : decode cX5_announce 6 = .ok (.if_icmp .ne 12, 3) := by decide +kernel
theorem dX5_announce_9 : decode cX5_announce 9 = .ok (.aload_n 0, 1) := by decide +kernel
theorem dX5_announce_10 : decode cX5_announce 10 = .ok (.iload_n 1, 1) := by decide +kernel
theorem dX5_announce_11 : decode cX5_announce 11 = .ok (.iload_n 2, 1) := by decide +kernel
theorem dX5_announce_12 : decode cX5_announce 12 = .ok (.iconst 4, 1) := by decide +kernel
theorem dX5_announce_13 : decode cX5_announce 13 = .ok (.iload_n 3, 1) := by decide +kernel
theorem dX5_announce_14 : decode cX5_announce 14 = .ok (.iconst 0, 1) := by decide +kernel
theorem dX5_announce_15 : decode cX5_announce 15 = .ok (.invokevirtual 80, 3) := by decide +kernel
theorem dX5_announce_18 : decode cX5_announce 18 = .ok (.return_, 1) := by decide +kernel
theorem dX5_tellFunction_0 : decode cX5_tellFunction 0 = .ok (.aload_n 0, 1) := by decide +kernel
theorem dX5_tellFunction_1 : decode cX5_tellFunction 1 = .ok (.iload_n 1, 1) := by decide +kernel
theorem dX5_tellFunction_2 : decode cX5_tellFunction 2 = .ok (.invokevirtual 72, 3) := by decide +kernel
theorem dX5_tellFunction_5 : decode cX5_tellFunction 5 = .ok (.istore 4, 2) := by decide +kernel
theorem dX5_tellFunction_7 : decode cX5_tellFunction 7 = .ok (.aload_n 0, 1) := by decide +kernel
theorem dX5_tellFunction_8 : decode cX5_tellFunction 8 = .ok (.iload 4, 2) := by decide +kernel
theorem dX5_tellFunction_10 : decode cX5_tellFunction 10 = .ok (.invokevirtual 84, 3) := by decide +kernel
theorem dX5_tellFunction_13 : decode cX5_tellFunction 13 = .ok (.iconst 4, 1) := by decide +kernel
theorem dX5_tellFunction_14 : decode cX5_tellFunction 14 = .ok (.if_icmp .ne 13, 3) := by decide +kernel
theorem dX5_tellFunction_17 : decode cX5_tellFunction 17 = .ok (.aload_n 0, 1) := by decide +kernel
theorem dX5_tellFunction_18 : decode cX5_tellFunction 18 = .ok (.iload 4, 2) := by decide +kernel
theorem dX5_tellFunction_20 : decode cX5_tellFunction 20 = .ok (.invokevirtual 87, 3) := by decide +kernel
theorem dX5_tellFunction_23 : decode cX5_tellFunction 23 = .ok (.iload_n 3, 1) := by decide +kernel
theorem dX5_tellFunction_24 : decode cX5_tellFunction 24 = .ok (.if_icmp .eq 9, 3) := by decide +kernel
theorem dX5_tellFunction_27 : decode cX5_tellFunction 27 = .ok (.aload_n 0, 1) := by decide +kernel
theorem dX5_tellFunction_28 : decode cX5_tellFunction 28 = .ok (.iconst 1, 1) := by decide +kernel
theorem dX5_tellFunction_29 : decode cX5_tellFunction 29 = .ok (.iload_n 2, 1) := by decide +kernel
theorem dX5_tellFunction_30 : decode cX5_tellFunction 30 = .ok (.invokevirtual 76, 3) := by decide +kernel
theorem dX5_tellFunction_33 : decode cX5_tellFunction 33 = .ok (.iload_n 3, 1) := by decide +kernel
theorem dX5_tellFunction_34 : decode cX5_tellFunction 34 = .ok (.bipush 40, 2) := by decide +kernel
theorem dX5_tellFunction_36 : decode cX5_tellFunction 36 = .ok (.if_icmp .lt 10, 3) := by decide +kernel
theorem dX5_tellFunction_39 : decode cX5_tellFunction 39 = .ok (.aload_n 0, 1) := by decide +kernel
theorem dX5_tellFunction_40 : decode cX5_tellFunction 40 = .ok (.bipush 8, 2) := by decide +kernel
theorem dX5_tellFunction_42 : decode cX5_tellFunction 42 = .ok (.iload_n 2, 1) := by decide +kernel
theorem dX5_tellFunction_43 : decode cX5_tellFunction 43 = .ok (.invokevirtual 76, 3) := by decide +kernel
theorem dX5_tellFunction_46 : decode cX5_tellFunction 46 = .ok (.return_, 1) := by decide +kernel
theorem dX5_tell_0 : decode cX5_tell 0 = .ok (.aload_n 0, 1) := by decide +kernel
theorem dX5_tell_1 : decode cX5_tell 1 = .ok (.getfield 53, 3) := by decide +kernel
theorem dX5_tell_4 : decode cX5_tell 4 = .ok (.ifCond .ne 4, 3) := by decide +kernel
theorem dX5_tell_7 : decode cX5_tell 7 = .ok (.return_, 1) := by decide +kernel
theorem dX5_tell_8 : decode cX5_tell 8 = .ok (.aload_n 0, 1) := by decide +kernel
theorem dX5_tell_9 : decode cX5_tell 9 = .ok (.iload_n 1, 1) := by decide +kernel
theorem dX5_tell_10 : decode cX5_tell 10 = .ok (.invokevirtual 72, 3) := by decide +kernel
theorem dX5_tell_13 : decode cX5_tell 13 = .ok (.istore 6, 2) := by decide +kernel
theorem dX5_tell_15 : decode cX5_tell 15 = .ok (.iload 6, 2) := by decide +kernel
theorem dX5_tell_17 : decode cX5_tell 17 = .ok (.ifCond .lt 30, 3) := by decide +kernel
theorem dX5_tell_20 : decode cX5_tell 20 = .ok (.iload 6, 2) := by decide +kernel
theorem dX5_tell_22 : decode cX5_tell 22 = .ok (.aload_n 0, 1) := by decide +kernel
theorem dX5_tell_23 : decode cX5_tell 23 = .ok (.getfield 40, 3) := by decide +kernel
theorem dX5_tell_26 : decode cX5_tell 26 = .ok (.if_icmp .ge 21, 3) := by decide +kernel
theorem dX5_tell_29 : decode cX5_tell 29 = .ok (.aload_n 0, 1) := by decide +kernel
theorem dX5_tell_30 : decode cX5_tell 30 = .ok (.getfield 15, 3) := by decide +kernel
theorem dX5_tell_33 : decode cX5_tell 33 = .ok (.iload 6, 2) := by decide +kernel
theorem dX5_tell_35 : decode cX5_tell 35 = .ok (.iaload, 1) := by decide +kernel
theorem dX5_tell_36 : decode cX5_tell 36 = .ok (.aload_n 0, 1) := by decide +kernel
theorem dX5_tell_37 : decode cX5_tell 37 = .ok (.getfield 44, 3) := by decide +kernel
theorem dX5_tell_40 : decode cX5_tell 40 = .ok (.if_icmp .ne 7, 3) := by decide +kernel
theorem dX5_tell_43 : decode cX5_tell 43 = .ok (.iconst 1, 1) := by decide +kernel
theorem dX5_tell_44 : decode cX5_tell 44 = .ok (.goto 4, 3) := by decide +kernel
theorem dX5_tell_47 : decode cX5_tell 47 = .ok (.iconst 0, 1) := by decide +kernel
theorem dX5_tell_48 : decode cX5_tell 48 = .ok (.istore 7, 2) := by decide +kernel
theorem dX5_tell_50 : decode cX5_tell 50 = .ok (.iload 7, 2) := by decide +kernel
theorem dX5_tell_52 : decode cX5_tell 52 = .ok (.ifCond .eq 29, 3) := by decide +kernel
theorem dX5_tell_55 : decode cX5_tell 55 = .ok (.aload_n 0, 1) := by decide +kernel
theorem dX5_tell_56 : decode cX5_tell 56 = .ok (.getfield 18, 3) := by decide +kernel
theorem dX5_tell_59 : decode cX5_tell 59 = .ok (.iload 6, 2) := by decide +kernel
theorem dX5_tell_61 : decode cX5_tell 61 = .ok (.iaload, 1) := by decide +kernel
theorem dX5_tell_62 : decode cX5_tell 62 = .ok (.iconst 4, 1) := by decide +kernel
theorem dX5_tell_63 : decode cX5_tell 63 = .ok (.if_icmp .ne 18, 3) := by decide +kernel
theorem dX5_tell_66 : decode cX5_tell 66 = .ok (.aload_n 0, 1) := by decide +kernel
theorem dX5_tell_67 : decode cX5_tell 67 = .ok (.getfield 21, 3) := by decide +kernel
theorem dX5_tell_70 : decode cX5_tell 70 = .ok (.iload 6, 2) := by decide +kernel
theorem dX5_tell_72 : decode cX5_tell 72 = .ok (.iaload, 1) := by decide +kernel
theorem dX5_tell_73 : decode cX5_tell 73 = .ok (.iload_n 2, 1) := by decide +kernel
theorem dX5_tell_74 : decode cX5_tell 74 = .ok (.if_icmp .le 7, 3) := by decide +kernel
theorem dX5_tell_77 : decode cX5_tell 77 = .ok (.iconst 1, 1) := by decide +kernel
theorem dX5_tell_78 : decode cX5_tell 78 = .ok (.goto 4, 3) := by decide +kernel
theorem dX5_tell_81 : decode cX5_tell 81 = .ok (.iconst 0, 1) := by decide +kernel
theorem dX5_tell_82 : decode cX5_tell 82 = .ok (.istore 8, 2) := by decide +kernel
theorem dX5_tell_84 : decode cX5_tell 84 = .ok (.iload 7, 2) := by decide +kernel
theorem dX5_tell_86 : decode cX5_tell 86 = .ok (.ifCond .eq 17, 3) := by decide +kernel
theorem dX5_tell_89 : decode cX5_tell 89 = .ok (.iload 8, 2) := by decide +kernel
theorem dX5_tell_91 : decode cX5_tell 91 = .ok (.ifCond .ne 12, 3) := by decide +kernel
theorem dX5_tell_94 : decode cX5_tell 94 = .ok (.aload_n 0, 1) := by decide +kernel
theorem dX5_tell_95 : decode cX5_tell 95 = .ok (.iconst 1, 1) := by decide +kernel
theorem dX5_tell_96 : decode cX5_tell 96 = .ok (.iload_n 2, 1) := by decide +kernel
theorem dX5_tell_97 : decode cX5_tell 97 = .ok (.invokevirtual 76, 3) := by decide +kernel
theorem dX5_tell_100 : decode cX5_tell 100 = .ok (.goto 14, 3) := by decide +kernel
theorem dX5_tell_103 : decode cX5_tell 103 = .ok (.aload_n 0, 1) := by decide +kernel
theorem dX5_tell_104 : decode cX5_tell 104 = .ok (.iload_n 1, 1) := by decide +kernel
theorem dX5_tell_105 : decode cX5_tell 105 = .ok (.iload_n 2, 1) := by decide +kernel
theorem dX5_tell_106 : decode cX5_tell 106 = .ok (.iload_n 3, 1) := by decide +kernel
theorem dX5_tell_107 : decode cX5_tell 107 = .ok (.iload 4, 2) := by decide +kernel
theorem dX5_tell_109 : decode cX5_tell 109 = .ok (.iload 5, 2) := by decide +kernel
theorem dX5_tell_111 : decode cX5_tell 111 = .ok (.invokevirtual 80, 3) := by decide +kernel
theorem dX5_tell_114 : decode cX5_tell 114 = .ok (.return_, 1) := by decide +kernel
theorem dX5_enter_0 : decode cX5_enter 0 = .ok (.aload_n 0, 1) := by decide +kernel
theorem dX5_enter_1 : decode cX5_enter 1 = .ok (.dup, 1) := by decide +kernel
theorem dX5_enter_2 : decode cX5_enter 2 = .ok (.getfield 44, 3) := by decide +kernel
theorem dX5_enter_5 : decode cX5_enter 5 = .ok (.iconst 1, 1) := by decide +kernel
theorem dX5_enter_6 : decode cX5_enter 6 = .ok (.iadd, 1) := by decide +kernel
theorem dX5_enter_7 : decode cX5_enter 7 = .ok (.putfield 44, 3) := by decide +kernel
theorem dX5_enter_10 : decode cX5_enter 10 = .ok (.return_, 1) := by decide +kernel
theorem dX5_leave_0 : decode cX5_leave 0 = .ok (.aload_n 0, 1) := by decide +kernel
theorem dX5_leave_1 : decode cX5_leave 1 = .ok (.getfield 40, 3) := by decide +kernel
theorem dX5_leave_4 : decode cX5_leave 4 = .ok (.iconst 1, 1) := by decide +kernel
theorem dX5_leave_5 : decode cX5_leave 5 = .ok (.isub, 1) := by decide +kernel
theorem dX5_leave_6 : decode cX5_leave 6 = .ok (.istore_n 1, 1) := by decide +kernel
theorem dX5_leave_7 : decode cX5_leave 7 = .ok (.iload_n 1, 1) := by decide +kernel
theorem dX5_leave_8 : decode cX5_leave 8 = .ok (.ifCond .lt 57, 3) := by decide +kernel
theorem dX5_leave_11 : decode cX5_leave 11 = .ok (.aload_n 0, 1) := by decide +kernel
theorem dX5_leave_12 : decode cX5_leave 12 = .ok (.getfield 15, 3) := by decide +kernel
theorem dX5_leave_15 : decode cX5_leave 15 = .ok (.iload_n 1, 1) := by decide +kernel
theorem dX5_leave_16 : decode cX5_leave 16 = .ok (.iaload, 1) := by decide +kernel
theorem dX5_leave_17 : decode cX5_leave 17 = .ok (.aload_n 0, 1) := by decide +kernel
theorem dX5_leave_18 : decode cX5_leave 18 = .ok (.getfield 44, 3) := by decide +kernel
theorem dX5_leave_21 : decode cX5_leave 21 = .ok (.if_icmp .ne 44, 3) := by decide +kernel
theorem dX5_leave_24 : decode cX5_leave 24 = .ok (.aload_n 0, 1) := by decide +kernel
theorem dX5_leave_25 : decode cX5_leave 25 = .ok (.getfield 11, 3) := by decide +kernel
theorem dX5_leave_28 : decode cX5_leave 28 = .ok (.iload_n 1, 1) := by decide +kernel
theorem dX5_leave_29 : decode cX5_leave 29 = .ok (.iaload, 1) := by decide +kernel
theorem dX5_leave_30 : decode cX5_leave 30 = .ok (.istore_n 2, 1) := by decide +kernel
theorem dX5_leave_31 : decode cX5_leave 31 = .ok (.iload_n 2, 1) := by decide +kernel
theorem dX5_leave_32 : decode cX5_leave 32 = .ok (.ifCond .lt 22, 3) := by decide +kernel
theorem dX5_leave_35 : decode cX5_leave 35 = .ok (.iload_n 2, 1) := by decide +kernel
theorem dX5_leave_36 : decode cX5_leave 36 = .ok (.sipush 1408, 3) := by decide +kernel
theorem dX5_leave_39 : decode cX5_leave 39 = .ok (.if_icmp .ge 15, 3) := by decide +kernel
theorem dX5_leave_42 : decode cX5_leave 42 = .ok (.aload_n 0, 1) := by decide +kernel
theorem dX5_leave_43 : decode cX5_leave 43 = .ok (.getfield 33, 3) := by decide +kernel
theorem dX5_leave_46 : decode cX5_leave 46 = .ok (.iload_n 2, 1) := by decide +kernel
theorem dX5_leave_47 : decode cX5_leave 47 = .ok (.aload_n 0, 1) := by decide +kernel
theorem dX5_leave_48 : decode cX5_leave 48 = .ok (.getfield 30, 3) := by decide +kernel
theorem dX5_leave_51 : decode cX5_leave 51 = .ok (.iload_n 1, 1) := by decide +kernel
theorem dX5_leave_52 : decode cX5_leave 52 = .ok (.iaload, 1) := by decide +kernel
theorem dX5_leave_53 : decode cX5_leave 53 = .ok (.iastore, 1) := by decide +kernel
theorem dX5_leave_54 : decode cX5_leave 54 = .ok (.aload_n 0, 1) := by decide +kernel
theorem dX5_leave_55 : decode cX5_leave 55 = .ok (.iload_n 1, 1) := by decide +kernel
theorem dX5_leave_56 : decode cX5_leave 56 = .ok (.putfield 40, 3) := by decide +kernel
theorem dX5_leave_59 : decode cX5_leave 59 = .ok (.iinc 1 (-1), 3) := by decide +kernel
theorem dX5_leave_62 : decode cX5_leave 62 = .ok (.goto (-55), 3) := by decide +kernel
theorem dX5_leave_65 : decode cX5_leave 65 = .ok (.aload_n 0, 1) := by decide +kernel
theorem dX5_leave_66 : decode cX5_leave 66 = .ok (.dup, 1) := by decide +kernel
theorem dX5_leave_67 : decode cX5_leave 67 = .ok (.getfield 44, 3) := by decide +kernel
theorem dX5_leave_70 : decode cX5_leave 70 = .ok (.iconst 1, 1) := by decide +kernel
theorem dX5_leave_71 : decode cX5_leave 71 = .ok (.isub, 1) := by decide +kernel
theorem dX5_leave_72 : decode cX5_leave 72 = .ok (.putfield 44, 3) := by decide +kernel
theorem dX5_leave_75 : decode cX5_leave 75 = .ok (.return_, 1) := by decide +kernel
theorem dX5_enterFunction_0 : decode cX5_enterFunction 0 = .ok (.aload_n 0, 1) := by decide +kernel
theorem dX5_enterFunction_1 : decode cX5_enterFunction 1 = .ok (.iload_n 1, 1) := by decide +kernel
theorem dX5_enterFunction_2 : decode cX5_enterFunction 2 = .ok (.putfield 90, 3) := by decide +kernel
theorem dX5_enterFunction_5 : decode cX5_enterFunction 5 = .ok (.aload_n 0, 1) := by decide +kernel
theorem dX5_enterFunction_6 : decode cX5_enterFunction 6 = .ok (.iconst 0, 1) := by decide +kernel
theorem dX5_enterFunction_7 : decode cX5_enterFunction 7 = .ok (.putfield 93, 3) := by decide +kernel
theorem dX5_enterFunction_10 : decode cX5_enterFunction 10 = .ok (.aload_n 0, 1) := by decide +kernel
theorem dX5_enterFunction_11 : decode cX5_enterFunction 11 = .ok (.iconst 0, 1) := by decide +kernel
theorem dX5_enterFunction_12 : decode cX5_enterFunction 12 = .ok (.putfield 96, 3) := by decide +kernel
theorem dX5_enterFunction_15 : decode cX5_enterFunction 15 = .ok (.aload_n 0, 1) := by decide +kernel
theorem dX5_enterFunction_16 : decode cX5_enterFunction 16 = .ok (.invokevirtual 99, 3) := by decide +kernel
theorem dX5_enterFunction_19 : decode cX5_enterFunction 19 = .ok (.return_, 1) := by decide +kernel
theorem dX5_measure_0 : decode cX5_measure 0 = .ok (.iconst 4, 1) := by decide +kernel
theorem dX5_measure_1 : decode cX5_measure 1 = .ok (.aload_n 0, 1) := by decide +kernel
theorem dX5_measure_2 : decode cX5_measure 2 = .ok (.getfield 93, 3) := by decide +kernel
theorem dX5_measure_5 : decode cX5_measure 5 = .ok (.iadd, 1) := by decide +kernel
theorem dX5_measure_6 : decode cX5_measure 6 = .ok (.aload_n 0, 1) := by decide +kernel
theorem dX5_measure_7 : decode cX5_measure 7 = .ok (.getfield 96, 3) := by decide +kernel
theorem dX5_measure_10 : decode cX5_measure 10 = .ok (.iadd, 1) := by decide +kernel
theorem dX5_measure_11 : decode cX5_measure 11 = .ok (.ireturn, 1) := by decide +kernel
theorem dX5_tellFormal_0 : decode cX5_tellFormal 0 = .ok (.aload_n 0, 1) := by decide +kernel
theorem dX5_tellFormal_1 : decode cX5_tellFormal 1 = .ok (.invokevirtual 102, 3) := by decide +kernel
theorem dX5_tellFormal_4 : decode cX5_tellFormal 4 = .ok (.istore 4, 2) := by decide +kernel
theorem dX5_tellFormal_6 : decode cX5_tellFormal 6 = .ok (.aload_n 0, 1) := by decide +kernel
theorem dX5_tellFormal_7 : decode cX5_tellFormal 7 = .ok (.dup, 1) := by decide +kernel
theorem dX5_tellFormal_8 : decode cX5_tellFormal 8 = .ok (.getfield 93, 3) := by decide +kernel
theorem dX5_tellFormal_11 : decode cX5_tellFormal 11 = .ok (.iload_n 3, 1) := by decide +kernel
theorem dX5_tellFormal_12 : decode cX5_tellFormal 12 = .ok (.iconst 1, 1) := by decide +kernel
theorem dX5_tellFormal_13 : decode cX5_tellFormal 13 = .ok (.if_icmp .ne 7, 3) := by decide +kernel
theorem dX5_tellFormal_16 : decode cX5_tellFormal 16 = .ok (.iconst 1, 1) := by decide +kernel
theorem dX5_tellFormal_17 : decode cX5_tellFormal 17 = .ok (.goto 4, 3) := by decide +kernel
theorem dX5_tellFormal_20 : decode cX5_tellFormal 20 = .ok (.iconst 2, 1) := by decide +kernel
theorem dX5_tellFormal_21 : decode cX5_tellFormal 21 = .ok (.iadd, 1) := by decide +kernel
theorem dX5_tellFormal_22 : decode cX5_tellFormal 22 = .ok (.putfield 93, 3) := by decide +kernel
theorem dX5_tellFormal_25 : decode cX5_tellFormal 25 = .ok (.aload_n 0, 1) := by decide +kernel
theorem dX5_tellFormal_26 : decode cX5_tellFormal 26 = .ok (.iload_n 1, 1) := by decide +kernel
theorem dX5_tellFormal_27 : decode cX5_tellFormal 27 = .ok (.iload_n 2, 1) := by decide +kernel
theorem dX5_tellFormal_28 : decode cX5_tellFormal 28 = .ok (.iload_n 3, 1) := by decide +kernel
theorem dX5_tellFormal_29 : decode cX5_tellFormal 29 = .ok (.iload 4, 2) := by decide +kernel
theorem dX5_tellFormal_31 : decode cX5_tellFormal 31 = .ok (.iconst 0, 1) := by decide +kernel
theorem dX5_tellFormal_32 : decode cX5_tellFormal 32 = .ok (.invokevirtual 106, 3) := by decide +kernel
theorem dX5_tellFormal_35 : decode cX5_tellFormal 35 = .ok (.return_, 1) := by decide +kernel
theorem dX5_localRoom_0 : decode cX5_localRoom 0 = .ok (.aload_n 0, 1) := by decide +kernel
theorem dX5_localRoom_1 : decode cX5_localRoom 1 = .ok (.invokevirtual 102, 3) := by decide +kernel
theorem dX5_localRoom_4 : decode cX5_localRoom 4 = .ok (.istore_n 3, 1) := by decide +kernel
theorem dX5_localRoom_5 : decode cX5_localRoom 5 = .ok (.aload_n 0, 1) := by decide +kernel
theorem dX5_localRoom_6 : decode cX5_localRoom 6 = .ok (.dup, 1) := by decide +kernel
theorem dX5_localRoom_7 : decode cX5_localRoom 7 = .ok (.getfield 96, 3) := by decide +kernel
theorem dX5_localRoom_10 : decode cX5_localRoom 10 = .ok (.iload_n 1, 1) := by decide +kernel
theorem dX5_localRoom_11 : decode cX5_localRoom 11 = .ok (.iadd, 1) := by decide +kernel
theorem dX5_localRoom_12 : decode cX5_localRoom 12 = .ok (.putfield 96, 3) := by decide +kernel
theorem dX5_localRoom_15 : decode cX5_localRoom 15 = .ok (.aload_n 0, 1) := by decide +kernel
theorem dX5_localRoom_16 : decode cX5_localRoom 16 = .ok (.getfield 96, 3) := by decide +kernel
theorem dX5_localRoom_19 : decode cX5_localRoom 19 = .ok (.sipush 200, 3) := by decide +kernel
theorem dX5_localRoom_22 : decode cX5_localRoom 22 = .ok (.if_icmp .le 10, 3) := by decide +kernel
theorem dX5_localRoom_25 : decode cX5_localRoom 25 = .ok (.aload_n 0, 1) := by decide +kernel
theorem dX5_localRoom_26 : decode cX5_localRoom 26 = .ok (.bipush 8, 2) := by decide +kernel
theorem dX5_localRoom_28 : decode cX5_localRoom 28 = .ok (.iload_n 2, 1) := by decide +kernel
theorem dX5_localRoom_29 : decode cX5_localRoom 29 = .ok (.invokevirtual 76, 3) := by decide +kernel
theorem dX5_localRoom_32 : decode cX5_localRoom 32 = .ok (.iload_n 3, 1) := by decide +kernel
theorem dX5_localRoom_33 : decode cX5_localRoom 33 = .ok (.ireturn, 1) := by decide +kernel
theorem dX5_globalRoom_0 : decode cX5_globalRoom 0 = .ok (.aload_n 0, 1) := by decide +kernel
theorem dX5_globalRoom_1 : decode cX5_globalRoom 1 = .ok (.getfield 36, 3) := by decide +kernel
theorem dX5_globalRoom_4 : decode cX5_globalRoom 4 = .ok (.getfield 109, 3) := by decide +kernel
theorem dX5_globalRoom_7 : decode cX5_globalRoom 7 = .ok (.istore_n 3, 1) := by decide +kernel
theorem dX5_globalRoom_8 : decode cX5_globalRoom 8 = .ok (.aload_n 0, 1) := by decide +kernel
theorem dX5_globalRoom_9 : decode cX5_globalRoom 9 = .ok (.getfield 53, 3) := by decide +kernel
theorem dX5_globalRoom_12 : decode cX5_globalRoom 12 = .ok (.ifCond .eq 36, 3) := by decide +kernel
theorem dX5_globalRoom_15 : decode cX5_globalRoom 15 = .ok (.aload_n 0, 1) := by decide +kernel
theorem dX5_globalRoom_16 : decode cX5_globalRoom 16 = .ok (.getfield 36, 3) := by decide +kernel
theorem dX5_globalRoom_19 : decode cX5_globalRoom 19 = .ok (.dup, 1) := by decide +kernel
theorem dX5_globalRoom_20 : decode cX5_globalRoom 20 = .ok (.getfield 109, 3) := by decide +kernel
theorem dX5_globalRoom_23 : decode cX5_globalRoom 23 = .ok (.iload_n 1, 1) := by decide +kernel
theorem dX5_globalRoom_24 : decode cX5_globalRoom 24 = .ok (.iadd, 1) := by decide +kernel
theorem dX5_globalRoom_25 : decode cX5_globalRoom 25 = .ok (.putfield 109, 3) := by decide +kernel
theorem dX5_globalRoom_28 : decode cX5_globalRoom 28 = .ok (.aload_n 0, 1) := by decide +kernel
theorem dX5_globalRoom_29 : decode cX5_globalRoom 29 = .ok (.getfield 36, 3) := by decide +kernel
theorem dX5_globalRoom_32 : decode cX5_globalRoom 32 = .ok (.getfield 109, 3) := by decide +kernel
theorem dX5_globalRoom_35 : decode cX5_globalRoom 35 = .ok (.sipush 2000, 3) := by decide +kernel
theorem dX5_globalRoom_38 : decode cX5_globalRoom 38 = .ok (.if_icmp .le 10, 3) := by decide +kernel
theorem dX5_globalRoom_41 : decode cX5_globalRoom 41 = .ok (.aload_n 0, 1) := by decide +kernel
theorem dX5_globalRoom_42 : decode cX5_globalRoom 42 = .ok (.bipush 8, 2) := by decide +kernel
theorem dX5_globalRoom_44 : decode cX5_globalRoom 44 = .ok (.iload_n 2, 1) := by decide +kernel
theorem dX5_globalRoom_45 : decode cX5_globalRoom 45 = .ok (.invokevirtual 76, 3) := by decide +kernel
theorem dX5_globalRoom_48 : decode cX5_globalRoom 48 = .ok (.iload_n 3, 1) := by decide +kernel
theorem dX5_globalRoom_49 : decode cX5_globalRoom 49 = .ok (.ireturn, 1) := by decide +kernel
theorem dX5_startConstant_0 : decode cX5_startConstant 0 = .ok (.aload_n 0, 1) := by decide +kernel
theorem dX5_startConstant_1 : decode cX5_startConstant 1 = .ok (.iconst 1, 1) := by decide +kernel
theorem dX5_startConstant_2 : decode cX5_startConstant 2 = .ok (.putfield 57, 3) := by decide +kernel
theorem dX5_startConstant_5 : decode cX5_startConstant 5 = .ok (.aload_n 0, 1) := by decide +kernel
theorem dX5_startConstant_6 : decode cX5_startConstant 6 = .ok (.iconst 1, 1) := by decide +kernel
theorem dX5_startConstant_7 : decode cX5_startConstant 7 = .ok (.putfield 60, 3) := by decide +kernel
theorem dX5_startConstant_10 : decode cX5_startConstant 10 = .ok (.return_, 1) := by decide +kernel
theorem dX5_endsConstant_0 : decode cX5_endsConstant 0 = .ok (.aload_n 0, 1) := by decide +kernel
theorem dX5_endsConstant_1 : decode cX5_endsConstant 1 = .ok (.iconst 0, 1) := by decide +kernel
theorem dX5_endsConstant_2 : decode cX5_endsConstant 2 = .ok (.putfield 57, 3) := by decide +kernel
theorem dX5_endsConstant_5 : decode cX5_endsConstant 5 = .ok (.aload_n 0, 1) := by decide +kernel
theorem dX5_endsConstant_6 : decode cX5_endsConstant 6 = .ok (.getfield 53, 3) := by decide +kernel
theorem dX5_endsConstant_9 : decode cX5_endsConstant 9 = .ok (.ifCond .eq 14, 3) := by decide +kernel
theorem dX5_endsConstant_12 : decode cX5_endsConstant 12 = .ok (.aload_n 0, 1) := by decide +kernel
theorem dX5_endsConstant_13 : decode cX5_endsConstant 13 = .ok (.getfield 60, 3) := by decide +kernel
theorem dX5_endsConstant_16 : decode cX5_endsConstant 16 = .ok (.ifCond .eq 7, 3) := by decide +kernel
theorem dX5_endsConstant_19 : decode cX5_endsConstant 19 = .ok (.iconst 1, 1) := by decide +kernel
theorem dX5_endsConstant_20 : decode cX5_endsConstant 20 = .ok (.goto 4, 3) := by decide +kernel
theorem dX5_endsConstant_23 : decode cX5_endsConstant 23 = .ok (.iconst 0, 1) := by decide +kernel
theorem dX5_endsConstant_24 : decode cX5_endsConstant 24 = .ok (.ireturn, 1) := by decide +kernel
theorem dX5_elements_0 : decode cX5_elements 0 = .ok (.iload_n 1, 1) := by decide +kernel
theorem dX5_elements_1 : decode cX5_elements 1 = .ok (.iconst 1, 1) := by decide +kernel
theorem dX5_elements_2 : decode cX5_elements 2 = .ok (.if_icmp .lt 10, 3) := by decide +kernel
theorem dX5_elements_5 : decode cX5_elements 5 = .ok (.iload_n 1, 1) := by decide +kernel
theorem dX5_elements_6 : decode cX5_elements 6 = .ok (.sipush 500, 3) := by decide +kernel
theorem dX5_elements_9 : decode cX5_elements 9 = .ok (.if_icmp .le 12, 3) := by decide +kernel
theorem dX5_elements_12 : decode cX5_elements 12 = .ok (.aload_n 0, 1) := by decide +kernel
theorem dX5_elements_13 : decode cX5_elements 13 = .ok (.bipush 7, 2) := by decide +kernel
theorem dX5_elements_15 : decode cX5_elements 15 = .ok (.iload_n 2, 1) := by decide +kernel
theorem dX5_elements_16 : decode cX5_elements 16 = .ok (.invokevirtual 76, 3) := by decide +kernel
theorem dX5_elements_19 : decode cX5_elements 19 = .ok (.iconst 0, 1) := by decide +kernel
theorem dX5_elements_20 : decode cX5_elements 20 = .ok (.ireturn, 1) := by decide +kernel
theorem dX5_elements_21 : decode cX5_elements 21 = .ok (.iload_n 1, 1) := by decide +kernel
theorem dX5_elements_22 : decode cX5_elements 22 = .ok (.ireturn, 1) := by decide +kernel
theorem dX5_wantValue_0 : decode cX5_wantValue 0 = .ok (.aload_n 0, 1) := by decide +kernel
theorem dX5_wantValue_1 : decode cX5_wantValue 1 = .ok (.iload_n 1, 1) := by decide +kernel
theorem dX5_wantValue_2 : decode cX5_wantValue 2 = .ok (.invokevirtual 84, 3) := by decide +kernel
theorem dX5_wantValue_5 : decode cX5_wantValue 5 = .ok (.istore 4, 2) := by decide +kernel
theorem dX5_wantValue_7 : decode cX5_wantValue 7 = .ok (.iload 4, 2) := by decide +kernel
theorem dX5_wantValue_9 : decode cX5_wantValue 9 = .ok (.iconst (-1), 1) := by decide +kernel
theorem dX5_wantValue_10 : decode cX5_wantValue 10 = .ok (.if_icmp .ne 4, 3) := by decide +kernel
theorem dX5_wantValue_13 : decode cX5_wantValue 13 = .ok (.return_, 1) := by decide +kernel
theorem dX5_wantValue_14 : decode cX5_wantValue 14 = .ok (.aload_n 0, 1) := by decide +kernel
theorem dX5_wantValue_15 : decode cX5_wantValue 15 = .ok (.getfield 57, 3) := by decide +kernel
theorem dX5_wantValue_18 : decode cX5_wantValue 18 = .ok (.ifCond .eq 27, 3) := by decide +kernel
theorem dX5_wantValue_21 : decode cX5_wantValue 21 = .ok (.iload 4, 2) := by decide +kernel
theorem dX5_wantValue_23 : decode cX5_wantValue 23 = .ok (.ifCond .ne 15, 3) := by decide +kernel
theorem dX5_wantValue_26 : decode cX5_wantValue 26 = .ok (.iload_n 3, 1) := by decide +kernel
theorem dX5_wantValue_27 : decode cX5_wantValue 27 = .ok (.bipush 19, 2) := by decide +kernel
theorem dX5_wantValue_29 : decode cX5_wantValue 29 = .ok (.if_icmp .eq 9, 3) := by decide +kernel
theorem dX5_wantValue_32 : decode cX5_wantValue 32 = .ok (.iload_n 3, 1) := by decide +kernel
theorem dX5_wantValue_33 : decode cX5_wantValue 33 = .ok (.bipush 21, 2) := by decide +kernel
theorem dX5_wantValue_35 : decode cX5_wantValue 35 = .ok (.if_icmp .ne 10, 3) := by decide +kernel
theorem dX5_wantValue_38 : decode cX5_wantValue 38 = .ok (.aload_n 0, 1) := by decide +kernel
theorem dX5_wantValue_39 : decode cX5_wantValue 39 = .ok (.bipush 7, 2) := by decide +kernel
theorem dX5_wantValue_41 : decode cX5_wantValue 41 = .ok (.iload_n 2, 1) := by decide +kernel
theorem dX5_wantValue_42 : decode cX5_wantValue 42 = .ok (.invokevirtual 76, 3) := by decide +kernel
theorem dX5_wantValue_45 : decode cX5_wantValue 45 = .ok (.aload_n 0, 1) := by decide +kernel
theorem dX5_wantValue_46 : decode cX5_wantValue 46 = .ok (.getfield 57, 3) := by decide +kernel
theorem dX5_wantValue_49 : decode cX5_wantValue 49 = .ok (.ifCond .ne 27, 3) := by decide +kernel
theorem dX5_wantValue_52 : decode cX5_wantValue 52 = .ok (.iload 4, 2) := by decide +kernel
theorem dX5_wantValue_54 : decode cX5_wantValue 54 = .ok (.ifCond .ne 7, 3) := by decide +kernel
theorem dX5_wantValue_57 : decode cX5_wantValue 57 = .ok (.iconst 1, 1) := by decide +kernel
theorem dX5_wantValue_58 : decode cX5_wantValue 58 = .ok (.goto 5, 3) := by decide +kernel
theorem dX5_wantValue_61 : decode cX5_wantValue 61 = .ok (.iload 4, 2) := by decide +kernel
theorem dX5_wantValue_63 : decode cX5_wantValue 63 = .ok (.iload_n 3, 1) := by decide +kernel
theorem dX5_wantValue_64 : decode cX5_wantValue 64 = .ok (.invokestatic 114, 3) := by decide +kernel
theorem dX5_wantValue_67 : decode cX5_wantValue 67 = .ok (.ifCond .ne 9, 3) := by decide +kernel
theorem dX5_wantValue_70 : decode cX5_wantValue 70 = .ok (.aload_n 0, 1) := by decide +kernel
theorem dX5_wantValue_71 : decode cX5_wantValue 71 = .ok (.iconst 4, 1) := by decide +kernel
theorem dX5_wantValue_72 : decode cX5_wantValue 72 = .ok (.iload_n 2, 1) := by decide +kernel
theorem dX5_wantValue_73 : decode cX5_wantValue 73 = .ok (.invokevirtual 76, 3) := by decide +kernel
theorem dX5_wantValue_76 : decode cX5_wantValue 76 = .ok (.iload 4, 2) := by decide +kernel
theorem dX5_wantValue_78 : decode cX5_wantValue 78 = .ok (.iconst 4, 1) := by decide +kernel
theorem dX5_wantValue_79 : decode cX5_wantValue 79 = .ok (.if_icmp .ne 25, 3) := by decide +kernel
theorem dX5_wantValue_82 : decode cX5_wantValue 82 = .ok (.aload_n 0, 1) := by decide +kernel
theorem dX5_wantValue_83 : decode cX5_wantValue 83 = .ok (.getfield 36, 3) := by decide +kernel
theorem dX5_wantValue_86 : decode cX5_wantValue 86 = .ok (.aload_n 0, 1) := by decide +kernel
theorem dX5_wantValue_87 : decode cX5_wantValue 87 = .ok (.getfield 24, 3) := by decide +kernel
theorem dX5_wantValue_90 : decode cX5_wantValue 90 = .ok (.iload_n 1, 1) := by decide +kernel
theorem dX5_wantValue_91 : decode cX5_wantValue 91 = .ok (.iaload, 1) := by decide +kernel
theorem dX5_wantValue_92 : decode cX5_wantValue 92 = .ok (.invokevirtual 118, 3) := by decide +kernel
theorem dX5_wantValue_95 : decode cX5_wantValue 95 = .ok (.ifCond .ne 9, 3) := by decide +kernel
theorem dX5_wantValue_98 : decode cX5_wantValue 98 = .ok (.aload_n 0, 1) := by decide +kernel
theorem dX5_wantValue_99 : decode cX5_wantValue 99 = .ok (.iconst 5, 1) := by decide +kernel
theorem dX5_wantValue_100 : decode cX5_wantValue 100 = .ok (.iload_n 2, 1) := by decide +kernel
theorem dX5_wantValue_101 : decode cX5_wantValue 101 = .ok (.invokevirtual 76, 3) := by decide +kernel
theorem dX5_wantValue_104 : decode cX5_wantValue 104 = .ok (.return_, 1) := by decide +kernel
theorem dX5_wantPlace_0 : decode cX5_wantPlace 0 = .ok (.aload_n 0, 1) := by decide +kernel
theorem dX5_wantPlace_1 : decode cX5_wantPlace 1 = .ok (.iload_n 1, 1) := by decide +kernel
theorem dX5_wantPlace_2 : decode cX5_wantPlace 2 = .ok (.invokevirtual 84, 3) := by decide +kernel
theorem dX5_wantPlace_5 : decode cX5_wantPlace 5 = .ok (.istore 4, 2) := by decide +kernel
theorem dX5_wantPlace_7 : decode cX5_wantPlace 7 = .ok (.iload 4, 2) := by decide +kernel
theorem dX5_wantPlace_9 : decode cX5_wantPlace 9 = .ok (.iconst (-1), 1) := by decide +kernel
theorem dX5_wantPlace_10 : decode cX5_wantPlace 10 = .ok (.if_icmp .eq 18, 3) := by decide +kernel
theorem dX5_wantPlace_13 : decode cX5_wantPlace 13 = .ok (.iload 4, 2) := by decide +kernel
theorem dX5_wantPlace_15 : decode cX5_wantPlace 15 = .ok (.iload_n 3, 1) := by decide +kernel
theorem dX5_wantPlace_16 : decode cX5_wantPlace 16 = .ok (.invokestatic 114, 3) := by decide +kernel
theorem dX5_wantPlace_19 : decode cX5_wantPlace 19 = .ok (.ifCond .ne 9, 3) := by decide +kernel
theorem dX5_wantPlace_22 : decode cX5_wantPlace 22 = .ok (.aload_n 0, 1) := by decide +kernel
theorem dX5_wantPlace_23 : decode cX5_wantPlace 23 = .ok (.iconst 4, 1) := by decide +kernel
theorem dX5_wantPlace_24 : decode cX5_wantPlace 24 = .ok (.iload_n 2, 1) := by decide +kernel
theorem dX5_wantPlace_25 : decode cX5_wantPlace 25 = .ok (.invokevirtual 76, 3) := by decide +kernel
theorem dX5_wantPlace_28 : decode cX5_wantPlace 28 = .ok (.return_, 1) := by decide +kernel
theorem dX5_wantArray_0 : decode cX5_wantArray 0 = .ok (.aload_n 0, 1) := by decide +kernel
theorem dX5_wantArray_1 : decode cX5_wantArray 1 = .ok (.iload_n 1, 1) := by decide +kernel
theorem dX5_wantArray_2 : decode cX5_wantArray 2 = .ok (.invokevirtual 84, 3) := by decide +kernel
theorem dX5_wantArray_5 : decode cX5_wantArray 5 = .ok (.iload_n 3, 1) := by decide +kernel
theorem dX5_wantArray_6 : decode cX5_wantArray 6 = .ok (.if_icmp .eq 9, 3) := by decide +kernel
theorem dX5_wantArray_9 : decode cX5_wantArray 9 = .ok (.aload_n 0, 1) := by decide +kernel
theorem dX5_wantArray_10 : decode cX5_wantArray 10 = .ok (.iconst 2, 1) := by decide +kernel
theorem dX5_wantArray_11 : decode cX5_wantArray 11 = .ok (.iload_n 2, 1) := by decide +kernel
theorem dX5_wantArray_12 : decode cX5_wantArray 12 = .ok (.invokevirtual 76, 3) := by decide +kernel
theorem dX5_wantArray_15 : decode cX5_wantArray 15 = .ok (.return_, 1) := by decide +kernel
theorem dX5_fits_0 : decode cX5_fits 0 = .ok (.iload_n 1, 1) := by decide +kernel
theorem dX5_fits_1 : decode cX5_fits 1 = .ok (.bipush 19, 2) := by decide +kernel
theorem dX5_fits_3 : decode cX5_fits 3 = .ok (.if_icmp .ne 14, 3) := by decide +kernel
theorem dX5_fits_6 : decode cX5_fits 6 = .ok (.iload_n 0, 1) := by decide +kernel
theorem dX5_fits_7 : decode cX5_fits 7 = .ok (.iconst 4, 1) := by decide +kernel
theorem dX5_fits_8 : decode cX5_fits 8 = .ok (.if_icmp .ne 7, 3) := by decide +kernel
theorem dX5_fits_11 : decode cX5_fits 11 = .ok (.iconst 1, 1) := by decide +kernel
theorem dX5_fits_12 : decode cX5_fits 12 = .ok (.goto 4, 3) := by decide +kernel
theorem dX5_fits_15 : decode cX5_fits 15 = .ok (.iconst 0, 1) := by decide +kernel
theorem dX5_fits_16 : decode cX5_fits 16 = .ok (.ireturn, 1) := by decide +kernel
theorem dX5_fits_17 : decode cX5_fits 17 = .ok (.iload_n 1, 1) := by decide +kernel
theorem dX5_fits_18 : decode cX5_fits 18 = .ok (.bipush 21, 2) := by decide +kernel
theorem dX5_fits_20 : decode cX5_fits 20 = .ok (.if_icmp .ne 21, 3) := by decide +kernel
theorem dX5_fits_23 : decode cX5_fits 23 = .ok (.iload_n 0, 1) := by decide +kernel
theorem dX5_fits_24 : decode cX5_fits 24 = .ok (.iconst 2, 1) := by decide +kernel
theorem dX5_fits_25 : decode cX5_fits 25 = .ok (.if_icmp .eq 8, 3) := by decide +kernel
theorem dX5_fits_28 : decode cX5_fits 28 = .ok (.iload_n 0, 1) := by decide +kernel
theorem dX5_fits_29 : decode cX5_fits 29 = .ok (.iconst 3, 1) := by decide +kernel
theorem dX5_fits_30 : decode cX5_fits 30 = .ok (.if_icmp .ne 7, 3) := by decide +kernel
theorem dX5_fits_33 : decode cX5_fits 33 = .ok (.iconst 1, 1) := by decide +kernel
theorem dX5_fits_34 : decode cX5_fits 34 = .ok (.goto 17, 3) := by decide +kernel
theorem dX5_fits_37 : decode cX5_fits 37 = .ok (.iconst 0, 1) := by decide +kernel
theorem dX5_fits_38 : decode cX5_fits 38 = .ok (.goto 13, 3) := by decide +kernel
theorem dX5_fits_41 : decode cX5_fits 41 = .ok (.iload_n 0, 1) := by decide +kernel
theorem dX5_fits_42 : decode cX5_fits 42 = .ok (.iconst 1, 1) := by decide +kernel
theorem dX5_fits_43 : decode cX5_fits 43 = .ok (.if_icmp .ne 7, 3) := by decide +kernel
theorem dX5_fits_46 : decode cX5_fits 46 = .ok (.iconst 1, 1) := by decide +kernel
theorem dX5_fits_47 : decode cX5_fits 47 = .ok (.goto 4, 3) := by decide +kernel
theorem dX5_fits_50 : decode cX5_fits 50 = .ok (.iconst 0, 1) := by decide +kernel
theorem dX5_fits_51 : decode cX5_fits 51 = .ok (.ireturn, 1) := by decide +kernel
theorem dX6_init_0 : decode cX6_init 0 = .ok (.aload_n 0, 1) := by decide +kernel
theorem dX6_init_1 : decode cX6_init 1 = .ok (.invokespecial 3, 3) := by decide +kernel
theorem dX6_init_4 : decode cX6_init 4 = .ok (.aload_n 0, 1) := by decide +kernel
theorem dX6_init_5 : decode cX6_init 5 = .ok (.sipush 4000, 3) := by decide +kernel
theorem dX6_init_8 : decode cX6_init 8 = .ok (.newarray .int, 2) := by decide +kernel
theorem dX6_init_10 : decode cX6_init 10 = .ok (.putfield 11, 3) := by decide +kernel
theorem dX6_init_13 : decode cX6_init 13 = .ok (.aload_n 0, 1) := by decide +kernel
theorem dX6_init_14 : decode cX6_init 14 = .ok (.sipush 1024, 3) := by decide +kernel
theorem dX6_init_17 : decode cX6_init 17 = .ok (.newarray .int, 2) := by decide +kernel
theorem dX6_init_19 : decode cX6_init 19 = .ok (.putfield 15, 3) := by decide +kernel
theorem dX6_init_22 : decode cX6_init 22 = .ok (.aload_n 0, 1) := by decide +kernel
theorem dX6_init_23 : decode cX6_init 23 = .ok (.aload_n 1, 1) := by decide +kernel
theorem dX6_init_24 : decode cX6_init 24 = .ok (.putfield 18, 3) := by decide +kernel
theorem dX6_init_27 : decode cX6_init 27 = .ok (.aload_n 0, 1) := by decide +kernel
theorem dX6_init_28 : decode cX6_init 28 = .ok (.aload_n 2, 1) := by decide +kernel
theorem dX6_init_29 : decode cX6_init 29 = .ok (.putfield 22, 3) := by decide +kernel
theorem dX6_init_32 : decode cX6_init 32 = .ok (.aload_n 0, 1) := by decide +kernel
theorem dX6_init_33 : decode cX6_init 33 = .ok (.aload_n 3, 1) := by decide +kernel
theorem dX6_init_34 : decode cX6_init 34 = .ok (.putfield 26, 3) := by decide +kernel
theorem dX6_init_37 : decode cX6_init 37 = .ok (.aload_n 0, 1) := by decide +kernel
theorem dX6_init_38 : decode cX6_init 38 = .ok (.iconst (-1), 1) := by decide +kernel
theorem dX6_init_39 : decode cX6_init 39 = .ok (.putfield 30, 3) := by decide +kernel
theorem dX6_init_42 : decode cX6_init 42 = .ok (.aload_n 0, 1) := by decide +kernel
theorem dX6_init_43 : decode cX6_init 43 = .ok (.sipush 2000, 3) := by decide +kernel
theorem dX6_init_46 : decode cX6_init 46 = .ok (.putfield 34, 3) := by decide +kernel
theorem dX6_init_49 : decode cX6_init 49 = .ok (.return_, 1) := by decide +kernel
theorem dX6_forget_0 : decode cX6_forget 0 = .ok (.aload_n 0, 1) := by decide +kernel
theorem dX6_forget_1 : decode cX6_forget 1 = .ok (.iconst 0, 1) := by decide +kernel
theorem dX6_forget_2 : decode cX6_forget 2 = .ok (.putfield 37, 3) := by decide +kernel
theorem dX6_forget_5 : decode cX6_forget 5 = .ok (.aload_n 0, 1) := by decide +kernel
theorem dX6_forget_6 : decode cX6_forget 6 = .ok (.iconst 0, 1) := by decide +kernel
theorem dX6_forget_7 : decode cX6_forget 7 = .ok (.putfield 40, 3) := by decide +kernel
theorem dX6_forget_10 : decode cX6_forget 10 = .ok (.aload_n 0, 1) := by decide +kernel
theorem dX6_forget_11 : decode cX6_forget 11 = .ok (.iconst 0, 1) := by decide +kernel
theorem dX6_forget_12 : decode cX6_forget 12 = .ok (.putfield 43, 3) := by decide +kernel
theorem dX6_forget_15 : decode cX6_forget 15 = .ok (.aload_n 0, 1) := by decide +kernel
theorem dX6_forget_16 : decode cX6_forget 16 = .ok (.iconst (-1), 1) := by decide +kernel
theorem dX6_forget_17 : decode cX6_forget 17 = .ok (.putfield 30, 3) := by decide +kernel
theorem dX6_forget_20 : decode cX6_forget 20 = .ok (.aload_n 0, 1) := by decide +kernel
theorem dX6_forget_21 : decode cX6_forget 21 = .ok (.iconst 0, 1) := by decide +kernel
theorem dX6_forget_22 : decode cX6_forget 22 = .ok (.putfield 46, 3) := by decide +kernel
theorem dX6_forget_25 : decode cX6_forget 25 = .ok (.aload_n 0, 1) := by decide +kernel
theorem dX6_forget_26 : decode cX6_forget 26 = .ok (.iconst 0, 1) := by decide +kernel
theorem dX6_forget_27 : decode cX6_forget 27 = .ok (.putfield 49, 3) := by decide +kernel
theorem dX6_forget_30 : decode cX6_forget 30 = .ok (.aload_n 0, 1) := by decide +kernel
theorem dX6_forget_31 : decode cX6_forget 31 = .ok (.sipush 2000, 3) := by decide +kernel
theorem dX6_forget_34 : decode cX6_forget 34 = .ok (.putfield 34, 3) := by decide +kernel
theorem dX6_forget_37 : decode cX6_forget 37 = .ok (.aload_n 0, 1) := by decide +kernel
theorem dX6_forget_38 : decode cX6_forget 38 = .ok (.iconst 0, 1) := by decide +kernel
theorem dX6_forget_39 : decode cX6_forget 39 = .ok (.putfield 52, 3) := by decide +kernel
theorem dX6_forget_42 : decode cX6_forget 42 = .ok (.return_, 1) := by decide +kernel
theorem dX6_startAnew_0 : decode cX6_startAnew 0 = .ok (.aload_n 0, 1) := by decide +kernel
theorem dX6_startAnew_1 : decode cX6_startAnew 1 = .ok (.invokevirtual 56, 3) := by decide +kernel
theorem dX6_startAnew_4 : decode cX6_startAnew 4 = .ok (.aload_n 0, 1) := by decide +kernel
theorem dX6_startAnew_5 : decode cX6_startAnew 5 = .ok (.iconst 1, 1) := by decide +kernel
theorem dX6_startAnew_6 : decode cX6_startAnew 6 = .ok (.putfield 37, 3) := by decide +kernel
theorem dX6_startAnew_9 : decode cX6_startAnew 9 = .ok (.aload_n 0, 1) := by decide +kernel
theorem dX6_startAnew_10 : decode cX6_startAnew 10 = .ok (.iload_n 1, 1) := by decide +kernel
theorem dX6_startAnew_11 : decode cX6_startAnew 11 = .ok (.putfield 46, 3) := by decide +kernel
theorem dX6_startAnew_14 : decode cX6_startAnew 14 = .ok (.aload_n 0, 1) := by decide +kernel
theorem dX6_startAnew_15 : decode cX6_startAnew 15 = .ok (.getfield 22, 3) := by decide +kernel
theorem dX6_startAnew_18 : decode cX6_startAnew 18 = .ok (.getfield 59, 3) := by decide +kernel
theorem dX6_startAnew_21 : decode cX6_startAnew 21 = .ok (.iconst 0, 1) := by decide +kernel
theorem dX6_startAnew_22 : decode cX6_startAnew 22 = .ok (.aload_n 0, 1) := by decide +kernel
theorem dX6_startAnew_23 : decode cX6_startAnew 23 = .ok (.getfield 11, 3) := by decide +kernel
theorem dX6_startAnew_26 : decode cX6_startAnew 26 = .ok (.iconst 0, 1) := by decide +kernel
theorem dX6_startAnew_27 : decode cX6_startAnew 27 = .ok (.sipush 2000, 3) := by decide +kernel
theorem dX6_startAnew_30 : decode cX6_startAnew 30 = .ok (.invokestatic 64, 3) := by decide +kernel
theorem dX6_startAnew_33 : decode cX6_startAnew 33 = .ok (.return_, 1) := by decide +kernel
theorem dX6_depth_0 : decode cX6_depth 0 = .ok (.aload_n 0, 1) := by decide +kernel
theorem dX6_depth_1 : decode cX6_depth 1 = .ok (.getfield 34, 3) := by decide +kernel
theorem dX6_depth_4 : decode cX6_depth 4 = .ok (.sipush 2000, 3) := by decide +kernel
theorem dX6_depth_7 : decode cX6_depth 7 = .ok (.isub, 1) := by decide +kernel
theorem dX6_depth_8 : decode cX6_depth 8 = .ok (.ireturn, 1) := by decide +kernel
theorem dX6_held_0 : decode cX6_held 0 = .ok (.iload_n 1, 1) := by decide +kernel
theorem dX6_held_1 : decode cX6_held 1 = .ok (.ifCond .lt 10, 3) := by decide +kernel
theorem dX6_held_4 : decode cX6_held 4 = .ok (.iload_n 1, 1) := by decide +kernel
theorem dX6_held_5 : decode cX6_held 5 = .ok (.sipush 4000, 3) := by decide +kernel
theorem dX6_held_8 : decode cX6_held 8 = .ok (.if_icmp .lt 7, 3) := by decide +kernel
theorem dX6_held_11 : decode cX6_held 11 = .ok (.iconst 0, 1) := by decide +kernel
theorem dX6_held_12 : decode cX6_held 12 = .ok (.goto 9, 3) := by decide +kernel
theorem dX6_held_15 : decode cX6_held 15 = .ok (.aload_n 0, 1) := by decide +kernel
theorem dX6_held_16 : decode cX6_held 16 = .ok (.getfield 11, 3) := by decide +kernel
theorem dX6_held_19 : decode cX6_held 19 = .ok (.iload_n 1, 1) := by decide +kernel
theorem dX6_held_20 : decode cX6_held 20 = .ok (.iaload, 1) := by decide +kernel
theorem dX6_held_21 : decode cX6_held 21 = .ok (.ireturn, 1) := by decide +kernel
theorem dX6_hold_0 : decode cX6_hold 0 = .ok (.iload_n 1, 1) := by decide +kernel
theorem dX6_hold_1 : decode cX6_hold 1 = .ok (.ifCond .lt 17, 3) := by decide +kernel
theorem dX6_hold_4 : decode cX6_hold 4 = .ok (.iload_n 1, 1) := by decide +kernel
theorem dX6_hold_5 : decode cX6_hold 5 = .ok (.sipush 4000, 3) := by decide +kernel
theorem dX6_hold_8 : decode cX6_hold 8 = .ok (.if_icmp .ge 10, 3) := by decide +kernel
theorem dX6_hold_11 : decode cX6_hold 11 = .ok (.aload_n 0, 1) := by decide +kernel
theorem dX6_hold_12 : decode cX6_hold 12 = .ok (.getfield 11, 3) := by decide +kernel
theorem dX6_hold_15 : decode cX6_hold 15 = .ok (.iload_n 1, 1) := by decide +kernel
theorem dX6_hold_16 : decode cX6_hold 16 = .ok (.iload_n 2, 1) := by decide +kernel
theorem dX6_hold_17 : decode cX6_hold 17 = .ok (.iastore, 1) := by decide +kernel
theorem dX6_hold_18 : decode cX6_hold 18 = .ok (.return_, 1) := by decide +kernel
theorem dX6_valueFrom_0 : decode cX6_valueFrom 0 = .ok (.aload_n 0, 1) := by decide +kernel
theorem dX6_valueFrom_1 : decode cX6_valueFrom 1 = .ok (.iload_n 1, 1) := by decide +kernel
theorem dX6_valueFrom_2 : decode cX6_valueFrom 2 = .ok (.putfield 70, 3) := by decide +kernel
theorem dX6_valueFrom_5 : decode cX6_valueFrom 5 = .ok (.aload_n 0, 1) := by decide +kernel
theorem dX6_valueFrom_6 : decode cX6_valueFrom 6 = .ok (.iconst 0, 1) := by decide +kernel
theorem dX6_valueFrom_7 : decode cX6_valueFrom 7 = .ok (.putfield 49, 3) := by decide +kernel
theorem dX6_valueFrom_10 : decode cX6_valueFrom 10 = .ok (.iconst 0, 1) := by decide +kernel
theorem dX6_valueFrom_11 : decode cX6_valueFrom 11 = .ok (.istore_n 2, 1) := by decide +kernel
theorem dX6_valueFrom_12 : decode cX6_valueFrom 12 = .ok (.iload_n 2, 1) := by decide +kernel
theorem dX6_valueFrom_13 : decode cX6_valueFrom 13 = .ok (.ldc 73, 2) := by decide +kernel
theorem dX6_valueFrom_15 : decode cX6_valueFrom 15 = .ok (.if_icmp .ge 104, 3) := by decide +kernel
theorem dX6_valueFrom_18 : decode cX6_valueFrom 18 = .ok (.aload_n 0, 1) := by decide +kernel
theorem dX6_valueFrom_19 : decode cX6_valueFrom 19 = .ok (.getfield 70, 3) := by decide +kernel
theorem dX6_valueFrom_22 : decode cX6_valueFrom 22 = .ok (.aload_n 0, 1) := by decide +kernel
theorem dX6_valueFrom_23 : decode cX6_valueFrom 23 = .ok (.getfield 18, 3) := by decide +kernel
theorem dX6_valueFrom_26 : decode cX6_valueFrom 26 = .ok (.getfield 74, 3) := by decide +kernel
theorem dX6_valueFrom_29 : decode cX6_valueFrom 29 = .ok (.if_icmp .ge 90, 3) := by decide +kernel
theorem dX6_valueFrom_32 : decode cX6_valueFrom 32 = .ok (.aload_n 0, 1) := by decide +kernel
theorem dX6_valueFrom_33 : decode cX6_valueFrom 33 = .ok (.invokevirtual 79, 3) := by decide +kernel
theorem dX6_valueFrom_36 : decode cX6_valueFrom 36 = .ok (.istore_n 3, 1) := by decide +kernel
theorem dX6_valueFrom_37 : decode cX6_valueFrom 37 = .ok (.iload_n 3, 1) := by decide +kernel
theorem dX6_valueFrom_38 : decode cX6_valueFrom 38 = .ok (.bipush 66, 2) := by decide +kernel
theorem dX6_valueFrom_40 : decode cX6_valueFrom 40 = .ok (.if_icmp .ne 14, 3) := by decide +kernel
theorem dX6_valueFrom_43 : decode cX6_valueFrom 43 = .ok (.aload_n 0, 1) := by decide +kernel
theorem dX6_valueFrom_44 : decode cX6_valueFrom 44 = .ok (.aload_n 0, 1) := by decide +kernel
theorem dX6_valueFrom_45 : decode cX6_valueFrom 45 = .ok (.invokevirtual 79, 3) := by decide +kernel
theorem dX6_valueFrom_48 : decode cX6_valueFrom 48 = .ok (.invokevirtual 83, 3) := by decide +kernel
theorem dX6_valueFrom_51 : decode cX6_valueFrom 51 = .ok (.goto 62, 3) := by decide +kernel
theorem dX6_valueFrom_54 : decode cX6_valueFrom 54 = .ok (.iload_n 3, 1) := by decide +kernel
theorem dX6_valueFrom_55 : decode cX6_valueFrom 55 = .ok (.bipush 84, 2) := by decide +kernel
theorem dX6_valueFrom_57 : decode cX6_valueFrom 57 = .ok (.if_icmp .lt 15, 3) := by decide +kernel
theorem dX6_valueFrom_60 : decode cX6_valueFrom 60 = .ok (.aload_n 0, 1) := by decide +kernel
theorem dX6_valueFrom_61 : decode cX6_valueFrom 61 = .ok (.iload_n 3, 1) := by decide +kernel
theorem dX6_valueFrom_62 : decode cX6_valueFrom 62 = .ok (.aload_n 0, 1) := by decide +kernel
theorem dX6_valueFrom_63 : decode cX6_valueFrom 63 = .ok (.invokevirtual 79, 3) := by decide +kernel
theorem dX6_valueFrom_66 : decode cX6_valueFrom 66 = .ok (.invokevirtual 87, 3) := by decide +kernel
theorem dX6_valueFrom_69 : decode cX6_valueFrom 69 = .ok (.goto 44, 3) := by decide +kernel
theorem dX6_valueFrom_72 : decode cX6_valueFrom 72 = .ok (.iload_n 3, 1) := by decide +kernel
theorem dX6_valueFrom_73 : decode cX6_valueFrom 73 = .ok (.bipush 62, 2) := by decide +kernel
theorem dX6_valueFrom_75 : decode cX6_valueFrom 75 = .ok (.if_icmp .lt 18, 3) := by decide +kernel
theorem dX6_valueFrom_78 : decode cX6_valueFrom 78 = .ok (.aload_n 0, 1) := by decide +kernel
theorem dX6_valueFrom_79 : decode cX6_valueFrom 79 = .ok (.iload_n 3, 1) := by decide +kernel
theorem dX6_valueFrom_80 : decode cX6_valueFrom 80 = .ok (.aload_n 0, 1) := by decide +kernel
theorem dX6_valueFrom_81 : decode cX6_valueFrom 81 = .ok (.invokevirtual 91, 3) := by decide +kernel
theorem dX6_valueFrom_84 : decode cX6_valueFrom 84 = .ok (.invokestatic 94, 3) := by decide +kernel
theorem dX6_valueFrom_87 : decode cX6_valueFrom 87 = .ok (.invokevirtual 83, 3) := by decide +kernel
theorem dX6_valueFrom_90 : decode cX6_valueFrom 90 = .ok (.goto 23, 3) := by decide +kernel
theorem dX6_valueFrom_93 : decode cX6_valueFrom 93 = .ok (.aload_n 0, 1) := by decide +kernel
theorem dX6_valueFrom_94 : decode cX6_valueFrom 94 = .ok (.invokevirtual 91, 3) := by decide +kernel
theorem dX6_valueFrom_97 : decode cX6_valueFrom 97 = .ok (.istore 4, 2) := by decide +kernel
theorem dX6_valueFrom_99 : decode cX6_valueFrom 99 = .ok (.aload_n 0, 1) := by decide +kernel
theorem dX6_valueFrom_100 : decode cX6_valueFrom 100 = .ok (.iload_n 3, 1) := by decide +kernel
theorem dX6_valueFrom_101 : decode cX6_valueFrom 101 = .ok (.aload_n 0, 1) := by decide +kernel
theorem dX6_valueFrom_102 : decode cX6_valueFrom 102 = .ok (.invokevirtual 91, 3) := by decide +kernel
theorem dX6_valueFrom_105 : decode cX6_valueFrom 105 = .ok (.iload 4, 2) := by decide +kernel
theorem dX6_valueFrom_107 : decode cX6_valueFrom 107 = .ok (.invokestatic 98, 3) := by decide +kernel
theorem dX6_valueFrom_110 : decode cX6_valueFrom 110 = .ok (.invokevirtual 83, 3) := by decide +kernel
theorem dX6_valueFrom_113 : decode cX6_valueFrom 113 = .ok (.iinc 2 1, 3) := by decide +kernel
theorem dX6_valueFrom_116 : decode cX6_valueFrom 116 = .ok (.goto (-104), 3) := by decide +kernel
theorem dX6_valueFrom_119 : decode cX6_valueFrom 119 = .ok (.aload_n 0, 1) := by decide +kernel
theorem dX6_valueFrom_120 : decode cX6_valueFrom 120 = .ok (.invokevirtual 91, 3) := by decide +kernel
theorem dX6_valueFrom_123 : decode cX6_valueFrom 123 = .ok (.ireturn, 1) := by decide +kernel
theorem dX6_goOn_0 : decode cX6_goOn 0 = .ok (.aload_n 0, 1) := by decide +kernel
theorem dX6_goOn_1 : decode cX6_goOn 1 = .ok (.getfield 37, 3) := by decide +kernel
theorem dX6_goOn_4 : decode cX6_goOn 4 = .ok (.iconst 1, 1) := by decide +kernel
theorem dX6_goOn_5 : decode cX6_goOn 5 = .ok (.if_icmp .eq 12, 3) := by decide +kernel
theorem dX6_goOn_8 : decode cX6_goOn 8 = .ok (.aload_n 0, 1) := by decide +kernel
theorem dX6_goOn_9 : decode cX6_goOn 9 = .ok (.getfield 37, 3) := by decide +kernel
theorem dX6_goOn_12 : decode cX6_goOn 12 = .ok (.iconst 2, 1) := by decide +kernel
theorem dX6_goOn_13 : decode cX6_goOn 13 = .ok (.if_icmp .eq 4, 3) := by decide +kernel
theorem dX6_goOn_16 : decode cX6_goOn 16 = .ok (.return_, 1) := by decide +kernel
theorem dX6_goOn_17 : decode cX6_goOn 17 = .ok (.aload_n 0, 1) := by decide +kernel
theorem dX6_goOn_18 : decode cX6_goOn 18 = .ok (.iconst 1, 1) := by decide +kernel
theorem dX6_goOn_19 : decode cX6_goOn 19 = .ok (.putfield 37, 3) := by decide +kernel
theorem dX6_goOn_22 : decode cX6_goOn 22 = .ok (.aload_n 0, 1) := by decide +kernel
theorem dX6_goOn_23 : decode cX6_goOn 23 = .ok (.iload_n 1, 1) := by decide +kernel
theorem dX6_goOn_24 : decode cX6_goOn 24 = .ok (.putfield 102, 3) := by decide +kernel
theorem dX6_goOn_27 : decode cX6_goOn 27 = .ok (.aload_n 0, 1) := by decide +kernel
theorem dX6_goOn_28 : decode cX6_goOn 28 = .ok (.iconst 1, 1) := by decide +kernel
theorem dX6_goOn_29 : decode cX6_goOn 29 = .ok (.putfield 105, 3) := by decide +kernel
theorem dX6_goOn_32 : decode cX6_goOn 32 = .ok (.aload_n 0, 1) := by decide +kernel
theorem dX6_goOn_33 : decode cX6_goOn 33 = .ok (.getfield 52, 3) := by decide +kernel
theorem dX6_goOn_36 : decode cX6_goOn 36 = .ok (.ifCond .ne 7, 3) := by decide +kernel
theorem dX6_goOn_39 : decode cX6_goOn 39 = .ok (.aload_n 0, 1) := by decide +kernel
theorem dX6_goOn_40 : decode cX6_goOn 40 = .ok (.invokevirtual 108, 3) := by decide +kernel
theorem dX6_goOn_43 : decode cX6_goOn 43 = .ok (.iconst 0, 1) := by decide +kernel
theorem dX6_goOn_44 : decode cX6_goOn 44 = .ok (.istore_n 2, 1) := by decide +kernel
theorem dX6_goOn_45 : decode cX6_goOn 45 = .ok (.iload_n 2, 1) := by decide +kernel
theorem dX6_goOn_46 : decode cX6_goOn 46 = .ok (.ldc 73, 2) := by decide +kernel
theorem dX6_goOn_48 : decode cX6_goOn 48 = .ok (.if_icmp .ge 20, 3) := by decide +kernel
theorem dX6_goOn_51 : decode cX6_goOn 51 = .ok (.aload_n 0, 1) := by decide +kernel
theorem dX6_goOn_52 : decode cX6_goOn 52 = .ok (.getfield 105, 3) := by decide +kernel
theorem dX6_goOn_55 : decode cX6_goOn 55 = .ok (.ifCond .eq 13, 3) := by decide +kernel
theorem dX6_goOn_58 : decode cX6_goOn 58 = .ok (.aload_n 0, 1) := by decide +kernel
theorem dX6_goOn_59 : decode cX6_goOn 59 = .ok (.invokevirtual 111, 3) := by decide +kernel
theorem dX6_goOn_62 : decode cX6_goOn 62 = .ok (.iinc 2 1, 3) := by decide +kernel
theorem dX6_goOn_65 : decode cX6_goOn 65 = .ok (.goto (-20), 3) := by decide +kernel
theorem dX6_goOn_68 : decode cX6_goOn 68 = .ok (.return_, 1) := by decide +kernel
theorem dX6_enterMain_0 : decode cX6_enterMain 0 = .ok (.aload_n 0, 1) := by decide +kernel
theorem dX6_enterMain_1 : decode cX6_enterMain 1 = .ok (.getfield 22, 3) := by decide +kernel
theorem dX6_enterMain_4 : decode cX6_enterMain 4 = .ok (.aload_n 0, 1) := by decide +kernel
theorem dX6_enterMain_5 : decode cX6_enterMain 5 = .ok (.getfield 22, 3) := by decide +kernel
theorem dX6_enterMain_8 : decode cX6_enterMain 8 = .ok (.getfield 114, 3) := by decide +kernel
theorem dX6_enterMain_11 : decode cX6_enterMain 11 = .ok (.invokevirtual 117, 3) := by decide +kernel
theorem dX6_enterMain_14 : decode cX6_enterMain 14 = .ok (.ifCond .ne 9, 3) := by decide +kernel
theorem dX6_enterMain_17 : decode cX6_enterMain 17 = .ok (.aload_n 0, 1) := by decide +kernel
theorem dX6_enterMain_18 : decode cX6_enterMain 18 = .ok (.iconst 3, 1) := by decide +kernel
theorem dX6_enterMain_19 : decode cX6_enterMain 19 = .ok (.invokevirtual 121, 3) := by decide +kernel
theorem dX6_enterMain_22 : decode cX6_enterMain 22 = .ok (.return_, 1) := by decide +kernel
theorem dX6_enterMain_23 : decode cX6_enterMain 23 = .ok (.aload_n 0, 1) := by decide +kernel
theorem dX6_enterMain_24 : decode cX6_enterMain 24 = .ok (.aload_n 0, 1) := by decide +kernel
theorem dX6_enterMain_25 : decode cX6_enterMain 25 = .ok (.aload_n 0, 1) := by decide +kernel
theorem dX6_enterMain_26 : decode cX6_enterMain 26 = .ok (.getfield 22, 3) := by decide +kernel
theorem dX6_enterMain_29 : decode cX6_enterMain 29 = .ok (.getfield 114, 3) := by decide +kernel
theorem dX6_enterMain_32 : decode cX6_enterMain 32 = .ok (.aload_n 0, 1) := by decide +kernel
theorem dX6_enterMain_33 : decode cX6_enterMain 33 = .ok (.getfield 22, 3) := by decide +kernel
theorem dX6_enterMain_36 : decode cX6_enterMain 36 = .ok (.getfield 124, 3) := by decide +kernel
theorem dX6_enterMain_39 : decode cX6_enterMain 39 = .ok (.aload_n 0, 1) := by decide +kernel
theorem dX6_enterMain_40 : decode cX6_enterMain 40 = .ok (.getfield 22, 3) := by decide +kernel
theorem dX6_enterMain_43 : decode cX6_enterMain 43 = .ok (.getfield 114, 3) := by decide +kernel
theorem dX6_enterMain_46 : decode cX6_enterMain 46 = .ok (.iaload, 1) := by decide +kernel
theorem dX6_enterMain_47 : decode cX6_enterMain 47 = .ok (.invokevirtual 127, 3) := by decide +kernel
theorem dX6_enterMain_50 : decode cX6_enterMain 50 = .ok (.putfield 52, 3) := by decide +kernel
theorem dX6_enterMain_53 : decode cX6_enterMain 53 = .ok (.return_, 1) := by decide +kernel
theorem dX6_enters_0 : decode cX6_enters 0 = .ok (.aload_n 0, 1) := by decide +kernel
theorem dX6_enters_1 : decode cX6_enters 1 = .ok (.getfield 22, 3) := by decide +kernel
theorem dX6_enters_4 : decode cX6_enters 4 = .ok (.getfield 131, 3) := by decide +kernel
theorem dX6_enters_7 : decode cX6_enters 7 = .ok (.iload_n 1, 1) := by decide +kernel
theorem dX6_enters_8 : decode cX6_enters 8 = .ok (.iaload, 1) := by decide +kernel
theorem dX6_enters_9 : decode cX6_enters 9 = .ok (.istore_n 3, 1) := by decide +kernel
theorem dX6_enters_10 : decode cX6_enters 10 = .ok (.aload_n 0, 1) := by decide +kernel
theorem dX6_enters_11 : decode cX6_enters 11 = .ok (.invokevirtual 134, 3) := by decide +kernel
theorem dX6_enters_14 : decode cX6_enters 14 = .ok (.iload_n 3, 1) := by decide +kernel
theorem dX6_enters_15 : decode cX6_enters 15 = .ok (.iadd, 1) := by decide +kernel
theorem dX6_enters_16 : decode cX6_enters 16 = .ok (.aload_n 0, 1) := by decide +kernel
theorem dX6_enters_17 : decode cX6_enters 17 = .ok (.getfield 46, 3) := by decide +kernel
theorem dX6_enters_20 : decode cX6_enters 20 = .ok (.if_icmp .le 16, 3) := by decide +kernel
theorem dX6_enters_23 : decode cX6_enters 23 = .ok (.aload_n 0, 1) := by decide +kernel
theorem dX6_enters_24 : decode cX6_enters 24 = .ok (.iload_n 2, 1) := by decide +kernel
theorem dX6_enters_25 : decode cX6_enters 25 = .ok (.putfield 30, 3) := by decide +kernel
theorem dX6_enters_28 : decode cX6_enters 28 = .ok (.aload_n 0, 1) := by decide +kernel
theorem dX6_enters_29 : decode cX6_enters 29 = .ok (.bipush 6, 2) := by decide +kernel
theorem dX6_enters_31 : decode cX6_enters 31 = .ok (.invokevirtual 121, 3) := by decide +kernel
theorem dX6_enters_34 : decode cX6_enters 34 = .ok (.iconst 0, 1) := by decide +kernel
theorem dX6_enters_35 : decode cX6_enters 35 = .ok (.ireturn, 1) := by decide +kernel
theorem dX6_enters_36 : decode cX6_enters 36 = .ok (.aload_n 0, 1) := by decide +kernel
theorem dX6_enters_37 : decode cX6_enters 37 = .ok (.aload_n 0, 1) := by decide +kernel
theorem dX6_enters_38 : decode cX6_enters 38 = .ok (.getfield 34, 3) := by decide +kernel
theorem dX6_enters_41 : decode cX6_enters 41 = .ok (.aload_n 0, 1) := by decide +kernel
theorem dX6_enters_42 : decode cX6_enters 42 = .ok (.getfield 70, 3) := by decide +kernel
theorem dX6_enters_45 : decode cX6_enters 45 = .ok (.invokevirtual 137, 3) := by decide +kernel
theorem dX6_enters_48 : decode cX6_enters 48 = .ok (.aload_n 0, 1) := by decide +kernel
theorem dX6_enters_49 : decode cX6_enters 49 = .ok (.aload_n 0, 1) := by decide +kernel
theorem dX6_enters_50 : decode cX6_enters 50 = .ok (.getfield 34, 3) := by decide +kernel
theorem dX6_enters_53 : decode cX6_enters 53 = .ok (.iconst 1, 1) := by decide +kernel
theorem dX6_enters_54 : decode cX6_enters 54 = .ok (.iadd, 1) := by decide +kernel
theorem dX6_enters_55 : decode cX6_enters 55 = .ok (.aload_n 0, 1) := by decide +kernel
theorem dX6_enters_56 : decode cX6_enters 56 = .ok (.getfield 140, 3) := by decide +kernel
theorem dX6_enters_59 : decode cX6_enters 59 = .ok (.invokevirtual 137, 3) := by decide +kernel
theorem dX6_enters_62 : decode cX6_enters 62 = .ok (.aload_n 0, 1) := by decide +kernel
theorem dX6_enters_63 : decode cX6_enters 63 = .ok (.getfield 22, 3) := by decide +kernel
theorem dX6_enters_66 : decode cX6_enters 66 = .ok (.getfield 143, 3) := by decide +kernel
theorem dX6_enters_69 : decode cX6_enters 69 = .ok (.iload_n 1, 1) := by decide +kernel
theorem dX6_enters_70 : decode cX6_enters 70 = .ok (.iaload, 1) := by decide +kernel
theorem dX6_enters_71 : decode cX6_enters 71 = .ok (.iconst 1, 1) := by decide +kernel
theorem dX6_enters_72 : decode cX6_enters 72 = .ok (.isub, 1) := by decide +kernel
theorem dX6_enters_73 : decode cX6_enters 73 = .ok (.istore 4, 2) := by decide +kernel
theorem dX6_enters_75 : decode cX6_enters 75 = .ok (.iload 4, 2) := by decide +kernel
theorem dX6_enters_77 : decode cX6_enters 77 = .ok (.ifCond .lt 26, 3) := by decide +kernel
theorem dX6_enters_80 : decode cX6_enters 80 = .ok (.aload_n 0, 1) := by decide +kernel
theorem dX6_enters_81 : decode cX6_enters 81 = .ok (.aload_n 0, 1) := by decide +kernel
theorem dX6_enters_82 : decode cX6_enters 82 = .ok (.getfield 34, 3) := by decide +kernel
theorem dX6_enters_85 : decode cX6_enters 85 = .ok (.iconst 4, 1) := by decide +kernel
theorem dX6_enters_86 : decode cX6_enters 86 = .ok (.iadd, 1) := by decide +kernel
theorem dX6_enters_87 : decode cX6_enters 87 = .ok (.iload 4, 2) := by decide +kernel
theorem dX6_enters_89 : decode cX6_enters 89 = .ok (.iadd, 1) := by decide +kernel
theorem dX6_enters_90 : decode cX6_enters 90 = .ok (.aload_n 0, 1) := by decide +kernel
theorem dX6_enters_91 : decode cX6_enters 91 = .ok (.invokevirtual 91, 3) := by decide +kernel
theorem dX6_enters_94 : decode cX6_enters 94 = .ok (.invokevirtual 137, 3) := by decide +kernel
theorem dX6_enters_97 : decode cX6_enters 97 = .ok (.iinc 4 (-1), 3) := by decide +kernel
theorem dX6_enters_100 : decode cX6_enters 100 = .ok (.goto (-25), 3) := by decide +kernel
theorem dX6_enters_103 : decode cX6_enters 103 = .ok (.aload_n 0, 1) := by decide +kernel
theorem dX6_enters_104 : decode cX6_enters 104 = .ok (.aload_n 0, 1) := by decide +kernel
theorem dX6_enters_105 : decode cX6_enters 105 = .ok (.getfield 34, 3) := by decide +kernel
theorem dX6_enters_108 : decode cX6_enters 108 = .ok (.putfield 140, 3) := by decide +kernel
theorem dX6_enters_111 : decode cX6_enters 111 = .ok (.aload_n 0, 1) := by decide +kernel
theorem dX6_enters_112 : decode cX6_enters 112 = .ok (.dup, 1) := by decide +kernel
theorem dX6_enters_113 : decode cX6_enters 113 = .ok (.getfield 34, 3) := by decide +kernel
theorem dX6_enters_116 : decode cX6_enters 116 = .ok (.iload_n 3, 1) := by decide +kernel
theorem dX6_enters_117 : decode cX6_enters 117 = .ok (.iadd, 1) := by decide +kernel
theorem dX6_enters_118 : decode cX6_enters 118 = .ok (.putfield 34, 3) := by decide +kernel
theorem dX6_enters_121 : decode cX6_enters 121 = .ok (.aload_n 0, 1) := by decide +kernel
theorem dX6_enters_122 : decode cX6_enters 122 = .ok (.aload_n 0, 1) := by decide +kernel
theorem dX6_enters_123 : decode cX6_enters 123 = .ok (.getfield 22, 3) := by decide +kernel
theorem dX6_enters_126 : decode cX6_enters 126 = .ok (.getfield 146, 3) := by decide +kernel
theorem dX6_enters_129 : decode cX6_enters 129 = .ok (.iload_n 1, 1) := by decide +kernel
theorem dX6_enters_130 : decode cX6_enters 130 = .ok (.iaload, 1) := by decide +kernel
theorem dX6_enters_131 : decode cX6_enters 131 = .ok (.putfield 70, 3) := by decide +kernel
theorem dX6_enters_134 : decode cX6_enters 134 = .ok (.iconst 1, 1) := by decide +kernel
theorem dX6_enters_135 : decode cX6_enters 135 = .ok (.ireturn, 1) := by decide +kernel
theorem dX6_over_0 : decode cX6_over 0 = .ok (.aload_n 0, 1) := by decide +kernel
theorem dX6_over_1 : decode cX6_over 1 = .ok (.iload_n 1, 1) := by decide +kernel
theorem dX6_over_2 : decode cX6_over 2 = .ok (.putfield 37, 3) := by decide +kernel
theorem dX6_over_5 : decode cX6_over 5 = .ok (.aload_n 0, 1) := by decide +kernel
theorem dX6_over_6 : decode cX6_over 6 = .ok (.iconst 0, 1) := by decide +kernel
theorem dX6_over_7 : decode cX6_over 7 = .ok (.putfield 105, 3) := by decide +kernel
theorem dX6_over_10 : decode cX6_over 10 = .ok (.return_, 1) := by decide +kernel
theorem dX6_stops_0 : decode cX6_stops 0 = .ok (.aload_n 0, 1) := by decide +kernel
theorem dX6_stops_1 : decode cX6_stops 1 = .ok (.iload_n 2, 1) := by decide +kernel
theorem dX6_stops_2 : decode cX6_stops 2 = .ok (.putfield 70, 3) := by decide +kernel
theorem dX6_stops_5 : decode cX6_stops 5 = .ok (.aload_n 0, 1) := by decide +kernel
theorem dX6_stops_6 : decode cX6_stops 6 = .ok (.iload_n 1, 1) := by decide +kernel
theorem dX6_stops_7 : decode cX6_stops 7 = .ok (.invokevirtual 121, 3) := by decide +kernel
theorem dX6_stops_10 : decode cX6_stops 10 = .ok (.return_, 1) := by decide +kernel
theorem dX6_push_0 : decode cX6_push 0 = .ok (.aload_n 0, 1) := by decide +kernel
theorem dX6_push_1 : decode cX6_push 1 = .ok (.getfield 49, 3) := by decide +kernel
theorem dX6_push_4 : decode cX6_push 4 = .ok (.aload_n 0, 1) := by decide +kernel
theorem dX6_push_5 : decode cX6_push 5 = .ok (.getfield 15, 3) := by decide +kernel
theorem dX6_push_8 : decode cX6_push 8 = .ok (.arraylength, 1) := by decide +kernel
theorem dX6_push_9 : decode cX6_push 9 = .ok (.if_icmp .lt 31, 3) := by decide +kernel
theorem dX6_push_12 : decode cX6_push 12 = .ok (.aload_n 0, 1) := by decide +kernel
theorem dX6_push_13 : decode cX6_push 13 = .ok (.getfield 15, 3) := by decide +kernel
theorem dX6_push_16 : decode cX6_push 16 = .ok (.arraylength, 1) := by decide +kernel
theorem dX6_push_17 : decode cX6_push 17 = .ok (.ldc 149, 2) := by decide +kernel
theorem dX6_push_19 : decode cX6_push 19 = .ok (.if_icmp .ge 21, 3) := by decide +kernel
theorem dX6_push_22 : decode cX6_push 22 = .ok (.aload_n 0, 1) := by decide +kernel
theorem dX6_push_23 : decode cX6_push 23 = .ok (.aload_n 0, 1) := by decide +kernel
theorem dX6_push_24 : decode cX6_push 24 = .ok (.getfield 15, 3) := by decide +kernel
theorem dX6_push_27 : decode cX6_push 27 = .ok (.aload_n 0, 1) := by decide +kernel
theorem dX6_push_28 : decode cX6_push 28 = .ok (.getfield 15, 3) := by decide +kernel
theorem dX6_push_31 : decode cX6_push 31 = .ok (.arraylength, 1) := by decide +kernel
theorem dX6_push_32 : decode cX6_push 32 = .ok (.iconst 2, 1) := by decide +kernel
theorem dX6_push_33 : decode cX6_push 33 = .ok (.imul, 1) := by decide +kernel
theorem dX6_push_34 : decode cX6_push 34 = .ok (.invokestatic 150, 3) := by decide +kernel
theorem dX6_push_37 : decode cX6_push 37 = .ok (.putfield 15, 3) := by decide +kernel
theorem dX6_push_40 : decode cX6_push 40 = .ok (.aload_n 0, 1) := by decide +kernel
theorem dX6_push_41 : decode cX6_push 41 = .ok (.getfield 49, 3) := by decide +kernel
theorem dX6_push_44 : decode cX6_push 44 = .ok (.aload_n 0, 1) := by decide +kernel
theorem dX6_push_45 : decode cX6_push 45 = .ok (.getfield 15, 3) := by decide +kernel
theorem dX6_push_48 : decode cX6_push 48 = .ok (.arraylength, 1) := by decide +kernel
theorem dX6_push_49 : decode cX6_push 49 = .ok (.if_icmp .ge 23, 3) := by decide +kernel
theorem dX6_push_52 : decode cX6_push 52 = .ok (.aload_n 0, 1) := by decide +kernel
theorem dX6_push_53 : decode cX6_push 53 = .ok (.getfield 15, 3) := by decide +kernel
theorem dX6_push_56 : decode cX6_push 56 = .ok (.aload_n 0, 1) := by decide +kernel
theorem dX6_push_57 : decode cX6_push 57 = .ok (.getfield 49, 3) := by decide +kernel
theorem dX6_push_60 : decode cX6_push 60 = .ok (.iload_n 1, 1) := by decide +kernel
theorem dX6_push_61 : decode cX6_push 61 = .ok (.iastore, 1) := by decide +kernel
theorem dX6_push_62 : decode cX6_push 62 = .ok (.aload_n 0, 1) := by decide +kernel
theorem dX6_push_63 : decode cX6_push 63 = .ok (.dup, 1) := by decide +kernel
theorem dX6_push_64 : decode cX6_push 64 = .ok (.getfield 49, 3) := by decide +kernel
theorem dX6_push_67 : decode cX6_push 67 = .ok (.iconst 1, 1) := by decide +kernel
theorem dX6_push_68 : decode cX6_push 68 = .ok (.iadd, 1) := by decide +kernel
theorem dX6_push_69 : decode cX6_push 69 = .ok (.putfield 49, 3) := by decide +kernel
theorem dX6_push_72 : decode cX6_push 72 = .ok (.return_, 1) := by decide +kernel
theorem dX6_pop_0 : decode cX6_pop 0 = .ok (.aload_n 0, 1) := by decide +kernel
theorem dX6_pop_1 : decode cX6_pop 1 = .ok (.getfield 49, 3) := by decide +kernel
theorem dX6_pop_4 : decode cX6_pop 4 = .ok (.ifCond .gt 5, 3) := by decide +kernel
theorem dX6_pop_7 : decode cX6_pop 7 = .ok (.iconst 0, 1) := by decide +kernel
theorem dX6_pop_8 : decode cX6_pop 8 = .ok (.ireturn, 1) := by decide +kernel
theorem dX6_pop_9 : decode cX6_pop 9 = .ok (.aload_n 0, 1) := by decide +kernel
theorem dX6_pop_10 : decode cX6_pop 10 = .ok (.dup, 1) := by decide +kernel
theorem dX6_pop_11 : decode cX6_pop 11 = .ok (.getfield 49, 3) := by decide +kernel
theorem dX6_pop_14 : decode cX6_pop 14 = .ok (.iconst 1, 1) := by decide +kernel
theorem dX6_pop_15 : decode cX6_pop 15 = .ok (.isub, 1) := by decide +kernel
theorem dX6_pop_16 : decode cX6_pop 16 = .ok (.putfield 49, 3) := by decide +kernel
theorem dX6_pop_19 : decode cX6_pop 19 = .ok (.aload_n 0, 1) := by decide +kernel
theorem dX6_pop_20 : decode cX6_pop 20 = .ok (.getfield 15, 3) := by decide +kernel
theorem dX6_pop_23 : decode cX6_pop 23 = .ok (.aload_n 0, 1) := by decide +kernel
theorem dX6_pop_24 : decode cX6_pop 24 = .ok (.getfield 49, 3) := by decide +kernel
theorem dX6_pop_27 : decode cX6_pop 27 = .ok (.iaload, 1) := by decide +kernel
theorem dX6_pop_28 : decode cX6_pop 28 = .ok (.ireturn, 1) := by decide +kernel
theorem dX6_next_0 : decode cX6_next 0 = .ok (.aload_n 0, 1) := by decide +kernel
theorem dX6_next_1 : decode cX6_next 1 = .ok (.getfield 70, 3) := by decide +kernel
theorem dX6_next_4 : decode cX6_next 4 = .ok (.ifCond .lt 17, 3) := by decide +kernel
theorem dX6_next_7 : decode cX6_next 7 = .ok (.aload_n 0, 1) := by decide +kernel
theorem dX6_next_8 : decode cX6_next 8 = .ok (.getfield 70, 3) := by decide +kernel
theorem dX6_next_11 : decode cX6_next 11 = .ok (.aload_n 0, 1) := by decide +kernel
theorem dX6_next_12 : decode cX6_next 12 = .ok (.getfield 18, 3) := by decide +kernel
theorem dX6_next_15 : decode cX6_next 15 = .ok (.getfield 74, 3) := by decide +kernel
theorem dX6_next_18 : decode cX6_next 18 = .ok (.if_icmp .lt 8, 3) := by decide +kernel
theorem dX6_next_21 : decode cX6_next 21 = .ok (.bipush 18, 2) := by decide +kernel
theorem dX6_next_23 : decode cX6_next 23 = .ok (.goto 15, 3) := by decide +kernel
theorem dX6_next_26 : decode cX6_next 26 = .ok (.aload_n 0, 1) := by decide +kernel
theorem dX6_next_27 : decode cX6_next 27 = .ok (.getfield 18, 3) := by decide +kernel
theorem dX6_next_30 : decode cX6_next 30 = .ok (.getfield 156, 3) := by decide +kernel
theorem dX6_next_33 : decode cX6_next 33 = .ok (.aload_n 0, 1) := by decide +kernel
theorem dX6_next_34 : decode cX6_next 34 = .ok (.getfield 70, 3) := by decide +kernel
theorem dX6_next_37 : decode cX6_next 37 = .ok (.iaload, 1) := by decide +kernel
theorem dX6_next_38 : decode cX6_next 38 = .ok (.istore_n 1, 1) := by decide +kernel
theorem dX6_next_39 : decode cX6_next 39 = .ok (.aload_n 0, 1) := by decide +kernel
theorem dX6_next_40 : decode cX6_next 40 = .ok (.dup, 1) := by decide +kernel
theorem dX6_next_41 : decode cX6_next 41 = .ok (.getfield 70, 3) := by decide +kernel
theorem dX6_next_44 : decode cX6_next 44 = .ok (.iconst 1, 1) := by decide +kernel
theorem dX6_next_45 : decode cX6_next 45 = .ok (.iadd, 1) := by decide +kernel
theorem dX6_next_46 : decode cX6_next 46 = .ok (.putfield 70, 3) := by decide +kernel
theorem dX6_next_49 : decode cX6_next 49 = .ok (.iload_n 1, 1) := by decide +kernel
theorem dX6_next_50 : decode cX6_next 50 = .ok (.ireturn, 1) := by decide +kernel
theorem dX6_step_0 : decode cX6_step 0 = .ok (.aload_n 0, 1) := by decide +kernel
theorem dX6_step_1 : decode cX6_step 1 = .ok (.getfield 70, 3) := by decide +kernel
theorem dX6_step_4 : decode cX6_step 4 = .ok (.istore_n 1, 1) := by decide +kernel
theorem dX6_step_5 : decode cX6_step 5 = .ok (.aload_n 0, 1) := by decide +kernel
theorem dX6_step_6 : decode cX6_step 6 = .ok (.invokevirtual 79, 3) := by decide +kernel
theorem dX6_step_9 : decode cX6_step 9 = .ok (.istore_n 2, 1) := by decide +kernel
theorem dX6_step_10 : decode cX6_step 10 = .ok (.iload_n 2, 1) := by decide +kernel
theorem dX6_step_11 : decode cX6_step 11 = .ok (.bipush 45, 2) := by decide +kernel
theorem dX6_step_13 : decode cX6_step 13 = .ok (.if_icmp .lt 30, 3) := by decide +kernel
theorem dX6_step_16 : decode cX6_step 16 = .ok (.iload_n 2, 1) := by decide +kernel
theorem dX6_step_17 : decode cX6_step 17 = .ok (.bipush 61, 2) := by decide +kernel
theorem dX6_step_19 : decode cX6_step 19 = .ok (.if_icmp .gt 24, 3) := by decide +kernel
theorem dX6_step_22 : decode cX6_step 22 = .ok (.aload_n 0, 1) := by decide +kernel
theorem dX6_step_23 : decode cX6_step 23 = .ok (.invokevirtual 91, 3) := by decide +kernel
theorem dX6_step_26 : decode cX6_step 26 = .ok (.istore_n 3, 1) := by decide +kernel
theorem dX6_step_27 : decode cX6_step 27 = .ok (.aload_n 0, 1) := by decide +kernel
theorem dX6_step_28 : decode cX6_step 28 = .ok (.iload_n 2, 1) := by decide +kernel
theorem dX6_step_29 : decode cX6_step 29 = .ok (.aload_n 0, 1) := by decide +kernel
theorem dX6_step_30 : decode cX6_step 30 = .ok (.invokevirtual 91, 3) := by decide +kernel
theorem dX6_step_33 : decode cX6_step 33 = .ok (.iload_n 3, 1) := by decide +kernel
theorem dX6_step_34 : decode cX6_step 34 = .ok (.invokestatic 98, 3) := by decide +kernel
theorem dX6_step_37 : decode cX6_step 37 = .ok (.invokevirtual 83, 3) := by decide +kernel
theorem dX6_step_40 : decode cX6_step 40 = .ok (.goto 100, 3) := by decide +kernel
theorem dX6_step_43 : decode cX6_step 43 = .ok (.iload_n 2, 1) := by decide +kernel
theorem dX6_step_44 : decode cX6_step 44 = .ok (.bipush 62, 2) := by decide +kernel
theorem dX6_step_46 : decode cX6_step 46 = .ok (.if_icmp .lt 24, 3) := by decide +kernel
theorem dX6_step_49 : decode cX6_step 49 = .ok (.iload_n 2, 1) := by decide +kernel
theorem dX6_step_50 : decode cX6_step 50 = .ok (.bipush 65, 2) := by decide +kernel
theorem dX6_step_52 : decode cX6_step 52 = .ok (.if_icmp .gt 18, 3) := by decide +kernel
theorem dX6_step_55 : decode cX6_step 55 = .ok (.aload_n 0, 1) := by decide +kernel
theorem dX6_step_56 : decode cX6_step 56 = .ok (.iload_n 2, 1) := by decide +kernel
theorem dX6_step_57 : decode cX6_step 57 = .ok (.aload_n 0, 1) := by decide +kernel
theorem dX6_step_58 : decode cX6_step 58 = .ok (.invokevirtual 91, 3) := by decide +kernel
theorem dX6_step_61 : decode cX6_step 61 = .ok (.invokestatic 94, 3) := by decide +kernel
theorem dX6_step_64 : decode cX6_step 64 = .ok (.invokevirtual 83, 3) := by decide +kernel
theorem dX6_step_67 : decode cX6_step 67 = .ok (.goto 73, 3) := by decide +kernel
theorem dX6_step_70 : decode cX6_step 70 = .ok (.iload_n 2, 1) := by decide +kernel
theorem dX6_step_71 : decode cX6_step 71 = .ok (.bipush 66, 2) := by decide +kernel
theorem dX6_step_73 : decode cX6_step 73 = .ok (.if_icmp .lt 17, 3) := by decide +kernel
theorem dX6_step_76 : decode cX6_step 76 = .ok (.iload_n 2, 1) := by decide +kernel
theorem dX6_step_77 : decode cX6_step 77 = .ok (.bipush 73, 2) := by decide +kernel
theorem dX6_step_79 : decode cX6_step 79 = .ok (.if_icmp .gt 11, 3) := by decide +kernel
theorem dX6_step_82 : decode cX6_step 82 = .ok (.aload_n 0, 1) := by decide +kernel
theorem dX6_step_83 : decode cX6_step 83 = .ok (.iload_n 2, 1) := by decide +kernel
theorem dX6_step_84 : decode cX6_step 84 = .ok (.invokevirtual 159, 3) := by decide +kernel
theorem dX6_step_87 : decode cX6_step 87 = .ok (.goto 53, 3) := by decide +kernel
theorem dX6_step_90 : decode cX6_step 90 = .ok (.iload_n 2, 1) := by decide +kernel
theorem dX6_step_91 : decode cX6_step 91 = .ok (.bipush 74, 2) := by decide +kernel
theorem dX6_step_93 : decode cX6_step 93 = .ok (.if_icmp .lt 17, 3) := by decide +kernel
theorem dX6_step_96 : decode cX6_step 96 = .ok (.iload_n 2, 1) := by decide +kernel
theorem dX6_step_97 : decode cX6_step 97 = .ok (.bipush 83, 2) := by decide +kernel
theorem dX6_step_99 : decode cX6_step 99 = .ok (.if_icmp .gt 11, 3) := by decide +kernel
theorem dX6_step_102 : decode cX6_step 102 = .ok (.aload_n 0, 1) := by decide +kernel
theorem dX6_step_103 : decode cX6_step 103 = .ok (.iload_n 2, 1) := by decide +kernel
theorem dX6_step_104 : decode cX6_step 104 = .ok (.invokevirtual 162, 3) := by decide +kernel
theorem dX6_step_107 : decode cX6_step 107 = .ok (.goto 33, 3) := by decide +kernel
theorem dX6_step_110 : decode cX6_step 110 = .ok (.iload_n 2, 1) := by decide +kernel
theorem dX6_step_111 : decode cX6_step 111 = .ok (.bipush 84, 2) := by decide +kernel
theorem dX6_step_113 : decode cX6_step 113 = .ok (.if_icmp .lt 21, 3) := by decide +kernel
theorem dX6_step_116 : decode cX6_step 116 = .ok (.iload_n 2, 1) := by decide +kernel
theorem dX6_step_117 : decode cX6_step 117 = .ok (.bipush 88, 2) := by decide +kernel
theorem dX6_step_119 : decode cX6_step 119 = .ok (.if_icmp .gt 15, 3) := by decide +kernel
theorem dX6_step_122 : decode cX6_step 122 = .ok (.aload_n 0, 1) := by decide +kernel
theorem dX6_step_123 : decode cX6_step 123 = .ok (.iload_n 2, 1) := by decide +kernel
theorem dX6_step_124 : decode cX6_step 124 = .ok (.aload_n 0, 1) := by decide +kernel
theorem dX6_step_125 : decode cX6_step 125 = .ok (.invokevirtual 79, 3) := by decide +kernel
theorem dX6_step_128 : decode cX6_step 128 = .ok (.invokevirtual 87, 3) := by decide +kernel
theorem dX6_step_131 : decode cX6_step 131 = .ok (.goto 9, 3) := by decide +kernel
theorem dX6_step_134 : decode cX6_step 134 = .ok (.aload_n 0, 1) := by decide +kernel
theorem dX6_step_135 : decode cX6_step 135 = .ok (.iload_n 2, 1) := by decide +kernel
theorem dX6_step_136 : decode cX6_step 136 = .ok (.iload_n 1, 1) := by decide +kernel
theorem dX6_step_137 : decode cX6_step 137 = .ok (.invokevirtual 165, 3) := by decide +kernel
theorem dX6_step_140 : decode cX6_step 140 = .ok (.return_, 1) := by decide +kernel
theorem dX6_changed_0 : decode cX6_changed 0 = .ok (.iload_n 0, 1) := by decide +kernel
theorem dX6_changed_1 : decode cX6_changed 1 = .ok (.tableswitch 47 62 64 #[27, 31, 44], 27) := by decide +kernel
theorem dX6_changed_28 : decode cX6_changed 28 = .ok (.iload_n 1, 1) := by decide +kernel
theorem dX6_changed_29 : decode cX6_changed 29 = .ok (.iconst (-1), 1) := by decide +kernel
theorem dX6_changed_30 : decode cX6_changed 30 = .ok (.ixor, 1) := by decide +kernel
theorem dX6_changed_31 : decode cX6_changed 31 = .ok (.ireturn, 1) := by decide +kernel
theorem dX6_changed_32 : decode cX6_changed 32 = .ok (.iload_n 1, 1) := by decide +kernel
theorem dX6_changed_33 : decode cX6_changed 33 = .ok (.ifCond .ne 7, 3) := by decide +kernel
theorem dX6_changed_36 : decode cX6_changed 36 = .ok (.iconst 1, 1) := by decide +kernel
theorem dX6_changed_37 : decode cX6_changed 37 = .ok (.goto 4, 3) := by decide +kernel
theorem dX6_changed_40 : decode cX6_changed 40 = .ok (.iconst 0, 1) := by decide +kernel
theorem dX6_changed_41 : decode cX6_changed 41 = .ok (.invokestatic 168, 3) := by decide +kernel
theorem dX6_changed_44 : decode cX6_changed 44 = .ok (.ireturn, 1) := by decide +kernel
theorem dX6_changed_45 : decode cX6_changed 45 = .ok (.iload_n 1, 1) := by decide +kernel
theorem dX6_changed_46 : decode cX6_changed 46 = .ok (.ineg, 1) := by decide +kernel
theorem dX6_changed_47 : decode cX6_changed 47 = .ok (.ireturn, 1) := by decide +kernel
theorem dX6_changed_48 : decode cX6_changed 48 = .ok (.iload_n 1, 1) := by decide +kernel
theorem dX6_changed_49 : decode cX6_changed 49 = .ok (.ifCond .eq 7, 3) := by decide +kernel
theorem dX6_changed_52 : decode cX6_changed 52 = .ok (.iconst 1, 1) := by decide +kernel
theorem dX6_changed_53 : decode cX6_changed 53 = .ok (.goto 4, 3) := by decide +kernel
theorem dX6_changed_56 : decode cX6_changed 56 = .ok (.iconst 0, 1) := by decide +kernel
theorem dX6_changed_57 : decode cX6_changed 57 = .ok (.invokestatic 168, 3) := by decide +kernel
theorem dX6_changed_60 : decode cX6_changed 60 = .ok (.ireturn, 1) := by decide +kernel
theorem dX6_move_0 : decode cX6_move 0 = .ok (.iload_n 1, 1) := by decide +kernel
theorem dX6_move_1 : decode cX6_move 1 = .ok (.tableswitch 150 66 72 #[43, 54, 72, 80, 95, 115, 130], 43) := by decide +kernel
theorem dX6_move_44 : decode cX6_move 44 = .ok (.aload_n 0, 1) := by decide +kernel
theorem dX6_move_45 : decode cX6_move 45 = .ok (.aload_n 0, 1) := by decide +kernel
theorem dX6_move_46 : decode cX6_move 46 = .ok (.invokevirtual 79, 3) := by decide +kernel
theorem dX6_move_49 : decode cX6_move 49 = .ok (.invokevirtual 83, 3) := by decide +kernel
theorem dX6_move_52 : decode cX6_move 52 = .ok (.goto 116, 3) := by decide +kernel
theorem dX6_move_55 : decode cX6_move 55 = .ok (.aload_n 0, 1) := by decide +kernel
theorem dX6_move_56 : decode cX6_move 56 = .ok (.invokevirtual 91, 3) := by decide +kernel
theorem dX6_move_59 : decode cX6_move 59 = .ok (.istore_n 2, 1) := by decide +kernel
theorem dX6_move_60 : decode cX6_move 60 = .ok (.aload_n 0, 1) := by decide +kernel
theorem dX6_move_61 : decode cX6_move 61 = .ok (.iload_n 2, 1) := by decide +kernel
theorem dX6_move_62 : decode cX6_move 62 = .ok (.invokevirtual 83, 3) := by decide +kernel
theorem dX6_move_65 : decode cX6_move 65 = .ok (.aload_n 0, 1) := by decide +kernel
theorem dX6_move_66 : decode cX6_move 66 = .ok (.iload_n 2, 1) := by decide +kernel
theorem dX6_move_67 : decode cX6_move 67 = .ok (.invokevirtual 83, 3) := by decide +kernel
theorem dX6_move_70 : decode cX6_move 70 = .ok (.goto 98, 3) := by decide +kernel
theorem dX6_move_73 : decode cX6_move 73 = .ok (.aload_n 0, 1) := by decide +kernel
theorem dX6_move_74 : decode cX6_move 74 = .ok (.invokevirtual 91, 3) := by decide +kernel
theorem dX6_move_77 : decode cX6_move 77 = .ok (.pop, 1) := by decide +kernel
theorem dX6_move_78 : decode cX6_move 78 = .ok (.goto 90, 3) := by decide +kernel
theorem dX6_move_81 : decode cX6_move 81 = .ok (.aload_n 0, 1) := by decide +kernel
theorem dX6_move_82 : decode cX6_move 82 = .ok (.aload_n 0, 1) := by decide +kernel
theorem dX6_move_83 : decode cX6_move 83 = .ok (.aload_n 0, 1) := by decide +kernel
theorem dX6_move_84 : decode cX6_move 84 = .ok (.invokevirtual 79, 3) := by decide +kernel
theorem dX6_move_87 : decode cX6_move 87 = .ok (.invokevirtual 172, 3) := by decide +kernel
theorem dX6_move_90 : decode cX6_move 90 = .ok (.invokevirtual 83, 3) := by decide +kernel
theorem dX6_move_93 : decode cX6_move 93 = .ok (.goto 75, 3) := by decide +kernel
theorem dX6_move_96 : decode cX6_move 96 = .ok (.aload_n 0, 1) := by decide +kernel
theorem dX6_move_97 : decode cX6_move 97 = .ok (.aload_n 0, 1) := by decide +kernel
theorem dX6_move_98 : decode cX6_move 98 = .ok (.aload_n 0, 1) := by decide +kernel
theorem dX6_move_99 : decode cX6_move 99 = .ok (.getfield 140, 3) := by decide +kernel
theorem dX6_move_102 : decode cX6_move 102 = .ok (.aload_n 0, 1) := by decide +kernel
theorem dX6_move_103 : decode cX6_move 103 = .ok (.invokevirtual 79, 3) := by decide +kernel
theorem dX6_move_106 : decode cX6_move 106 = .ok (.iadd, 1) := by decide +kernel
theorem dX6_move_107 : decode cX6_move 107 = .ok (.invokevirtual 172, 3) := by decide +kernel
theorem dX6_move_110 : decode cX6_move 110 = .ok (.invokevirtual 83, 3) := by decide +kernel
theorem dX6_move_113 : decode cX6_move 113 = .ok (.goto 55, 3) := by decide +kernel
theorem dX6_move_116 : decode cX6_move 116 = .ok (.aload_n 0, 1) := by decide +kernel
theorem dX6_move_117 : decode cX6_move 117 = .ok (.aload_n 0, 1) := by decide +kernel
theorem dX6_move_118 : decode cX6_move 118 = .ok (.invokevirtual 79, 3) := by decide +kernel
theorem dX6_move_121 : decode cX6_move 121 = .ok (.aload_n 0, 1) := by decide +kernel
theorem dX6_move_122 : decode cX6_move 122 = .ok (.invokevirtual 91, 3) := by decide +kernel
theorem dX6_move_125 : decode cX6_move 125 = .ok (.invokevirtual 137, 3) := by decide +kernel
theorem dX6_move_128 : decode cX6_move 128 = .ok (.goto 40, 3) := by decide +kernel
theorem dX6_move_131 : decode cX6_move 131 = .ok (.aload_n 0, 1) := by decide +kernel
theorem dX6_move_132 : decode cX6_move 132 = .ok (.aload_n 0, 1) := by decide +kernel
theorem dX6_move_133 : decode cX6_move 133 = .ok (.getfield 140, 3) := by decide +kernel
theorem dX6_move_136 : decode cX6_move 136 = .ok (.aload_n 0, 1) := by decide +kernel
theorem dX6_move_137 : decode cX6_move 137 = .ok (.invokevirtual 79, 3) := by decide +kernel
theorem dX6_move_140 : decode cX6_move 140 = .ok (.iadd, 1) := by decide +kernel
theorem dX6_move_141 : decode cX6_move 141 = .ok (.aload_n 0, 1) := by decide +kernel
theorem dX6_move_142 : decode cX6_move 142 = .ok (.invokevirtual 91, 3) := by decide +kernel
theorem dX6_move_145 : decode cX6_move 145 = .ok (.invokevirtual 137, 3) := by decide +kernel
theorem dX6_move_148 : decode cX6_move 148 = .ok (.goto 20, 3) := by decide +kernel
theorem dX6_move_151 : decode cX6_move 151 = .ok (.aload_n 0, 1) := by decide +kernel
theorem dX6_move_152 : decode cX6_move 152 = .ok (.aload_n 0, 1) := by decide +kernel
theorem dX6_move_153 : decode cX6_move 153 = .ok (.getfield 140, 3) := by decide +kernel
theorem dX6_move_156 : decode cX6_move 156 = .ok (.aload_n 0, 1) := by decide +kernel
theorem dX6_move_157 : decode cX6_move 157 = .ok (.invokevirtual 79, 3) := by decide +kernel
theorem dX6_move_160 : decode cX6_move 160 = .ok (.iadd, 1) := by decide +kernel
theorem dX6_move_161 : decode cX6_move 161 = .ok (.aload_n 0, 1) := by decide +kernel
theorem dX6_move_162 : decode cX6_move 162 = .ok (.invokevirtual 79, 3) := by decide +kernel
theorem dX6_move_165 : decode cX6_move 165 = .ok (.invokevirtual 176, 3) := by decide +kernel
theorem dX6_move_168 : decode cX6_move 168 = .ok (.return_, 1) := by decide +kernel
theorem dX6_clear_0 : decode cX6_clear 0 = .ok (.iconst 0, 1) := by decide +kernel
theorem dX6_clear_1 : decode cX6_clear 1 = .ok (.istore_n 3, 1) := by decide +kernel
theorem dX6_clear_2 : decode cX6_clear 2 = .ok (.iload_n 3, 1) := by decide +kernel
theorem dX6_clear_3 : decode cX6_clear 3 = .ok (.iload_n 2, 1) := by decide +kernel
theorem dX6_clear_4 : decode cX6_clear 4 = .ok (.if_icmp .ge 24, 3) := by decide +kernel
theorem dX6_clear_7 : decode cX6_clear 7 = .ok (.iload_n 3, 1) := by decide +kernel
theorem dX6_clear_8 : decode cX6_clear 8 = .ok (.sipush 200, 3) := by decide +kernel
theorem dX6_clear_11 : decode cX6_clear 11 = .ok (.if_icmp .ge 17, 3) := by decide +kernel
theorem dX6_clear_14 : decode cX6_clear 14 = .ok (.aload_n 0, 1) := by decide +kernel
theorem dX6_clear_15 : decode cX6_clear 15 = .ok (.iload_n 1, 1) := by decide +kernel
theorem dX6_clear_16 : decode cX6_clear 16 = .ok (.iload_n 3, 1) := by decide +kernel
theorem dX6_clear_17 : decode cX6_clear 17 = .ok (.iadd, 1) := by decide +kernel
theorem dX6_clear_18 : decode cX6_clear 18 = .ok (.iconst 0, 1) := by decide +kernel
theorem dX6_clear_19 : decode cX6_clear 19 = .ok (.invokevirtual 137, 3) := by decide +kernel
theorem dX6_clear_22 : decode cX6_clear 22 = .ok (.iinc 3 1, 3) := by decide +kernel
theorem dX6_clear_25 : decode cX6_clear 25 = .ok (.goto (-23), 3) := by decide +kernel
theorem dX6_clear_28 : decode cX6_clear 28 = .ok (.return_, 1) := by decide +kernel
theorem dX6_reach_0 : decode cX6_reach 0 = .ok (.iload_n 1, 1) := by decide +kernel
theorem dX6_reach_1 : decode cX6_reach 1 = .ok (.tableswitch 199 74 80 #[43, 58, 78, 112, 127, 157, 176], 43) := by decide +kernel
theorem dX6_reach_44 : decode cX6_reach 44 = .ok (.aload_n 0, 1) := by decide +kernel
theorem dX6_reach_45 : decode cX6_reach 45 = .ok (.aload_n 0, 1) := by decide +kernel
theorem dX6_reach_46 : decode cX6_reach 46 = .ok (.invokevirtual 79, 3) := by decide +kernel
theorem dX6_reach_49 : decode cX6_reach 49 = .ok (.aload_n 0, 1) := by decide +kernel
theorem dX6_reach_50 : decode cX6_reach 50 = .ok (.invokevirtual 79, 3) := by decide +kernel
theorem dX6_reach_53 : decode cX6_reach 53 = .ok (.invokevirtual 179, 3) := by decide +kernel
theorem dX6_reach_56 : decode cX6_reach 56 = .ok (.goto 157, 3) := by decide +kernel
theorem dX6_reach_59 : decode cX6_reach 59 = .ok (.aload_n 0, 1) := by decide +kernel
theorem dX6_reach_60 : decode cX6_reach 60 = .ok (.aload_n 0, 1) := by decide +kernel
theorem dX6_reach_61 : decode cX6_reach 61 = .ok (.getfield 140, 3) := by decide +kernel
theorem dX6_reach_64 : decode cX6_reach 64 = .ok (.aload_n 0, 1) := by decide +kernel
theorem dX6_reach_65 : decode cX6_reach 65 = .ok (.invokevirtual 79, 3) := by decide +kernel
theorem dX6_reach_68 : decode cX6_reach 68 = .ok (.iadd, 1) := by decide +kernel
theorem dX6_reach_69 : decode cX6_reach 69 = .ok (.aload_n 0, 1) := by decide +kernel
theorem dX6_reach_70 : decode cX6_reach 70 = .ok (.invokevirtual 79, 3) := by decide +kernel
theorem dX6_reach_73 : decode cX6_reach 73 = .ok (.invokevirtual 179, 3) := by decide +kernel
theorem dX6_reach_76 : decode cX6_reach 76 = .ok (.goto 137, 3) := by decide +kernel
theorem dX6_reach_79 : decode cX6_reach 79 = .ok (.aload_n 0, 1) := by decide +kernel
theorem dX6_reach_80 : decode cX6_reach 80 = .ok (.getfield 140, 3) := by decide +kernel
theorem dX6_reach_83 : decode cX6_reach 83 = .ok (.aload_n 0, 1) := by decide +kernel
theorem dX6_reach_84 : decode cX6_reach 84 = .ok (.invokevirtual 79, 3) := by decide +kernel
theorem dX6_reach_87 : decode cX6_reach 87 = .ok (.iadd, 1) := by decide +kernel
theorem dX6_reach_88 : decode cX6_reach 88 = .ok (.istore_n 2, 1) := by decide +kernel
theorem dX6_reach_89 : decode cX6_reach 89 = .ok (.aload_n 0, 1) := by decide +kernel
theorem dX6_reach_90 : decode cX6_reach 90 = .ok (.invokevirtual 79, 3) := by decide +kernel
theorem dX6_reach_93 : decode cX6_reach 93 = .ok (.pop, 1) := by decide +kernel
theorem dX6_reach_94 : decode cX6_reach 94 = .ok (.aload_n 0, 1) := by decide +kernel
theorem dX6_reach_95 : decode cX6_reach 95 = .ok (.aload_n 0, 1) := by decide +kernel
theorem dX6_reach_96 : decode cX6_reach 96 = .ok (.iload_n 2, 1) := by decide +kernel
theorem dX6_reach_97 : decode cX6_reach 97 = .ok (.invokevirtual 172, 3) := by decide +kernel
theorem dX6_reach_100 : decode cX6_reach 100 = .ok (.aload_n 0, 1) := by decide +kernel
theorem dX6_reach_101 : decode cX6_reach 101 = .ok (.iload_n 2, 1) := by decide +kernel
theorem dX6_reach_102 : decode cX6_reach 102 = .ok (.iconst 1, 1) := by decide +kernel
theorem dX6_reach_103 : decode cX6_reach 103 = .ok (.iadd, 1) := by decide +kernel
theorem dX6_reach_104 : decode cX6_reach 104 = .ok (.invokevirtual 172, 3) := by decide +kernel
theorem dX6_reach_107 : decode cX6_reach 107 = .ok (.invokevirtual 179, 3) := by decide +kernel
theorem dX6_reach_110 : decode cX6_reach 110 = .ok (.goto 103, 3) := by decide +kernel
theorem dX6_reach_113 : decode cX6_reach 113 = .ok (.aload_n 0, 1) := by decide +kernel
theorem dX6_reach_114 : decode cX6_reach 114 = .ok (.aload_n 0, 1) := by decide +kernel
theorem dX6_reach_115 : decode cX6_reach 115 = .ok (.aload_n 0, 1) := by decide +kernel
theorem dX6_reach_116 : decode cX6_reach 116 = .ok (.invokevirtual 91, 3) := by decide +kernel
theorem dX6_reach_119 : decode cX6_reach 119 = .ok (.invokevirtual 172, 3) := by decide +kernel
theorem dX6_reach_122 : decode cX6_reach 122 = .ok (.invokevirtual 83, 3) := by decide +kernel
theorem dX6_reach_125 : decode cX6_reach 125 = .ok (.goto 88, 3) := by decide +kernel
theorem dX6_reach_128 : decode cX6_reach 128 = .ok (.aload_n 0, 1) := by decide +kernel
theorem dX6_reach_129 : decode cX6_reach 129 = .ok (.invokevirtual 91, 3) := by decide +kernel
theorem dX6_reach_132 : decode cX6_reach 132 = .ok (.istore_n 3, 1) := by decide +kernel
theorem dX6_reach_133 : decode cX6_reach 133 = .ok (.aload_n 0, 1) := by decide +kernel
theorem dX6_reach_134 : decode cX6_reach 134 = .ok (.aload_n 0, 1) := by decide +kernel
theorem dX6_reach_135 : decode cX6_reach 135 = .ok (.iload_n 3, 1) := by decide +kernel
theorem dX6_reach_136 : decode cX6_reach 136 = .ok (.iconst 2, 1) := by decide +kernel
theorem dX6_reach_137 : decode cX6_reach 137 = .ok (.ishr, 1) := by decide +kernel
theorem dX6_reach_138 : decode cX6_reach 138 = .ok (.invokevirtual 172, 3) := by decide +kernel
theorem dX6_reach_141 : decode cX6_reach 141 = .ok (.iload_n 3, 1) := by decide +kernel
theorem dX6_reach_142 : decode cX6_reach 142 = .ok (.iconst 3, 1) := by decide +kernel
theorem dX6_reach_143 : decode cX6_reach 143 = .ok (.iand, 1) := by decide +kernel
theorem dX6_reach_144 : decode cX6_reach 144 = .ok (.bipush 8, 2) := by decide +kernel
theorem dX6_reach_146 : decode cX6_reach 146 = .ok (.imul, 1) := by decide +kernel
theorem dX6_reach_147 : decode cX6_reach 147 = .ok (.iushr, 1) := by decide +kernel
theorem dX6_reach_148 : decode cX6_reach 148 = .ok (.sipush 255, 3) := by decide +kernel
theorem dX6_reach_151 : decode cX6_reach 151 = .ok (.iand, 1) := by decide +kernel
theorem dX6_reach_152 : decode cX6_reach 152 = .ok (.invokevirtual 83, 3) := by decide +kernel
theorem dX6_reach_155 : decode cX6_reach 155 = .ok (.goto 58, 3) := by decide +kernel
theorem dX6_reach_158 : decode cX6_reach 158 = .ok (.aload_n 0, 1) := by decide +kernel
theorem dX6_reach_159 : decode cX6_reach 159 = .ok (.invokevirtual 91, 3) := by decide +kernel
theorem dX6_reach_162 : decode cX6_reach 162 = .ok (.istore 4, 2) := by decide +kernel
theorem dX6_reach_164 : decode cX6_reach 164 = .ok (.aload_n 0, 1) := by decide +kernel
theorem dX6_reach_165 : decode cX6_reach 165 = .ok (.aload_n 0, 1) := by decide +kernel
theorem dX6_reach_166 : decode cX6_reach 166 = .ok (.invokevirtual 91, 3) := by decide +kernel
theorem dX6_reach_169 : decode cX6_reach 169 = .ok (.iload 4, 2) := by decide +kernel
theorem dX6_reach_171 : decode cX6_reach 171 = .ok (.invokevirtual 137, 3) := by decide +kernel
theorem dX6_reach_174 : decode cX6_reach 174 = .ok (.goto 39, 3) := by decide +kernel
theorem dX6_reach_177 : decode cX6_reach 177 = .ok (.aload_n 0, 1) := by decide +kernel
theorem dX6_reach_178 : decode cX6_reach 178 = .ok (.invokevirtual 91, 3) := by decide +kernel
theorem dX6_reach_181 : decode cX6_reach 181 = .ok (.istore 5, 2) := by decide +kernel
theorem dX6_reach_183 : decode cX6_reach 183 = .ok (.aload_n 0, 1) := by decide +kernel
theorem dX6_reach_184 : decode cX6_reach 184 = .ok (.aload_n 0, 1) := by decide +kernel
theorem dX6_reach_185 : decode cX6_reach 185 = .ok (.invokevirtual 91, 3) := by decide +kernel
theorem dX6_reach_188 : decode cX6_reach 188 = .ok (.iload 5, 2) := by decide +kernel
theorem dX6_reach_190 : decode cX6_reach 190 = .ok (.sipush 255, 3) := by decide +kernel
theorem dX6_reach_193 : decode cX6_reach 193 = .ok (.iand, 1) := by decide +kernel
theorem dX6_reach_194 : decode cX6_reach 194 = .ok (.invokevirtual 182, 3) := by decide +kernel
theorem dX6_reach_197 : decode cX6_reach 197 = .ok (.goto 16, 3) := by decide +kernel
theorem dX6_reach_200 : decode cX6_reach 200 = .ok (.aload_n 0, 1) := by decide +kernel
theorem dX6_reach_201 : decode cX6_reach 201 = .ok (.iload_n 1, 1) := by decide +kernel
theorem dX6_reach_202 : decode cX6_reach 202 = .ok (.aload_n 0, 1) := by decide +kernel
theorem dX6_reach_203 : decode cX6_reach 203 = .ok (.invokevirtual 79, 3) := by decide +kernel
theorem dX6_reach_206 : decode cX6_reach 206 = .ok (.aload_n 0, 1) := by decide +kernel
theorem dX6_reach_207 : decode cX6_reach 207 = .ok (.invokevirtual 79, 3) := by decide +kernel
theorem dX6_reach_210 : decode cX6_reach 210 = .ok (.invokevirtual 185, 3) := by decide +kernel
theorem dX6_reach_213 : decode cX6_reach 213 = .ok (.return_, 1) := by decide +kernel
theorem dX6_element_0 : decode cX6_element 0 = .ok (.aload_n 0, 1) := by decide +kernel
theorem dX6_element_1 : decode cX6_element 1 = .ok (.invokevirtual 79, 3) := by decide +kernel
theorem dX6_element_4 : decode cX6_element 4 = .ok (.istore_n 3, 1) := by decide +kernel
theorem dX6_element_5 : decode cX6_element 5 = .ok (.aload_n 0, 1) := by decide +kernel
